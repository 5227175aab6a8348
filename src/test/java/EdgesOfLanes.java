/** Promises 14 to 23: seconds, lengths, best, cost, where, obey, all, changes, order, apart. */
final class EdgesOfLanes {
    private final Edge edge;

    EdgesOfLanes(Edge edge) {
        this.edge = edge;
    }

    void run() {
        seconds();
        secondsOpenOrNot();
        secondsBad();
        lengths();
        lengthsBeyond();
        lengthsBad();
        best();
        bestOfLikeOnes();
        bestBad();
        cost();
        costBad();
        costNo();
        where();
        whereBad();
        obey();
        obeyBelieved();
        obeyBad();
        all();
        allFirstWay();
        allBad();
        changes();
        changesOnlyIfFewer();
        changesRoundAndRound();
        changesCut();
        changesBad();
        orders();
        ordersOfNobody();
        ordersNoEarlier();
        ordersFirst();
        orderNotSoMany();
        orderBad();
        apart();
        apartOnlyMore();
        apartBad();
    }

    private void seconds() {
        edge.says(14, "SECONDS: how many (0), slower ones (1), others (2).");
        int[][] many = {{71, 54, 81, 45}, {70, 70, 73, 70}, {36, 34, 34, 33}, {52, 52, 52, 52}, {87, 87, 80, 80}};
        int[][] slower = {{1, 1, 1, 0}, {0, 0, 1, 0}, {2, 1, 1, 0}, {1, 0, 1, 0}, {0, 0, 0, 0}};
        int[][] others = {{1, 2, 1, 0}, {1, 2, 1, 0}, {2, 1, 1, 0}, {2, 1, 1, 0}, {2, 2, 0, 0}};
        for (int p = 0; p < 5; p++) {
            for (int l = 0; l < 4; l++) {
                int one = p;
                int at = l;
                String what = "of " + p + " in " + l;
                edge.asks(Baths::busy, "seconds " + what, x -> x.seconds(one, at, 0), many[p][l]);
                edge.asks(Baths::busy, "slower ones than " + what, x -> x.seconds(one, at, 1), slower[p][l]);
                edge.asks(Baths::busy, "others " + what, x -> x.seconds(one, at, 2), others[p][l]);
            }
        }
        SwimLanes seven = Due.bathOf(0, 50, 0, 0, 50, 0, 0, 49, 0, 0, 51, 0, 0, 90, 0, 0, 20, 0, 0, 50, 0);
        edge.is("slower ones than 50, of seven", seven.seconds(0, 0, 1), 2);
        edge.is("six others", seven.seconds(0, 0, 2), 6);
        edge.is("none slower than 90", seven.seconds(4, 0, 1), 0);
        edge.is("six slower than 20", seven.seconds(5, 0, 1), 6);
        edge.is("seven by one of them", seven.seconds(0, 0, 0), 96);
    }

    private void secondsOpenOrNot() {
        edge.says(14, "SECONDS of one, were one in a LANE (open or not; all others where they are)");
        edge.asks(Baths::lane3Shut, "in one that is shut", x -> x.seconds(0, 3, 0), 45);
        edge.asks(Baths::lane3Shut, "slower ones there", x -> x.seconds(0, 3, 1), 0);
        edge.asks(Baths::lane3Shut, "others there", x -> x.seconds(0, 3, 2), 0);
    }

    private void secondsBad() {
        edge.says(14, "BAD.");
        edge.range(Baths::busy, "seconds of", (x, v) -> x.seconds(v, 0, 0), 0, 71, 4, 87);
        edge.range(Baths::seven, "seconds of one of seven", (x, v) -> x.seconds(v, 0, 0), 0, 71, 6, 72);
        edge.range(Baths::busy, "seconds in", (x, v) -> x.seconds(0, v, 0), 0, 71, 3, 45);
        edge.range(Baths::busy, "seconds, what", (x, v) -> x.seconds(0, 1, v), 0, 54, 2, 2);
        edge.bad(Baths::nobody, "nobody is there", x -> x.seconds(0, 0, 0));
    }

    private void lengths() {
        edge.says(15, "LENGTHS that one has behind m (0 .. 60) MINUTES");
        for (int m = 0; m <= 60; m++) {
            int minutes = m;
            edge.asks(Baths::busy, "of 0 behind " + m, x -> x.lengths(0, minutes), 4 + (16 + 60 * m) / 71);
            edge.asks(Baths::busy, "of 2 behind " + m, x -> x.lengths(2, minutes), 8 + (28 + 60 * m) / 34);
        }
        SwimLanes x = Baths.busy();
        int due = x.lengths(4, 37);
        x.minute(37);
        edge.is("as they are then", x.of(4, 3), due);
        SwimLanes left = Due.bathOf(0, 20, 0, 3, 90, 0);
        left.minute(1);
        left.goes(0, 1);
        edge.is("60 left over, behind none", left.lengths(0, 0), 0);
        edge.is("60 left over, behind one", left.lengths(0, 1), 6);
        edge.is("all staying where they are", Due.bathOf(0, 20, 0, 3, 60, 0).lengths(0, 60), 3600 / 61);
    }

    private void lengthsBeyond() {
        edge.says(15, "(beyond 999, too)");
        edge.asks(() -> Baths.atMinute(998), "one from 998", x -> x.lengths(0, 1), 999);
        edge.asks(() -> Baths.atMinute(998), "two from 998", x -> x.lengths(0, 2), 1000);
        edge.asks(() -> Baths.atMinute(999), "none from 999", x -> x.lengths(0, 0), 999);
        edge.asks(() -> Baths.atMinute(999), "one from 999", x -> x.lengths(0, 1), 1000);
        edge.asks(() -> Baths.atMinute(999), "60 from 999", x -> x.lengths(0, 60), 1059);
    }

    private void lengthsBad() {
        edge.says(15, "BAD.");
        edge.range(Baths::busy, "lengths of", (x, v) -> x.lengths(v, 0), 0, 4, 4, 3);
        edge.range(Baths::busy, "lengths behind", (x, v) -> x.lengths(0, v), 0, 4, 60, 54);
        edge.bad(Baths::nobody, "nobody is there", x -> x.lengths(0, 0));
    }

    private void best() {
        edge.says(16, "BEST of one: the open LANE in which a length takes one fewest SECONDS");
        int[] best = {3, 0, 3, 0, 2};
        int[] without3 = {1, 0, 1, 0, 2};
        for (int p = 0; p < 5; p++) {
            int one = p;
            edge.asks(Baths::busy, "of " + p, x -> x.best(one), best[p]);
            SwimLanes x = Baths.busy();
            x.shut(3, 1);
            edge.is("of " + p + ", 3 is shut", x.best(p), without3[p]);
        }
        SwimLanes only = Baths.sevenInLane0();
        only.shut(1, 1);
        only.shut(2, 1);
        edge.is("the only open one", only.best(0), 0);
        SwimLanes second = Due.bathOf(0, 20, 2, 3, 90, 2);
        second.shut(0, 1);
        second.shut(1, 1);
        edge.is("fewer than where it is", second.best(0), 3);
        second.shut(3, 1);
        edge.is("where it is, nothing else being open", second.best(0), 2);
    }

    private void bestOfLikeOnes() {
        edge.says(16, "(of like ones the least)");
        for (int l = 0; l < 4; l++) {
            edge.is("alone in " + l, Due.bathOf(0, 50, l).best(0), 0);
        }
        SwimLanes x = Due.bathOf(0, 50, 3);
        x.shut(0, 1);
        edge.is("0 is shut", x.best(0), 1);
        x.shut(1, 1);
        edge.is("0 and 1 are shut", x.best(0), 2);
        edge.is("51 in 0, 50 in 1 and 2, 3", Due.bathOf(0, 50, 3, 3, 40, 0).best(0), 1);
    }

    private void bestBad() {
        edge.says(16, "BAD.");
        edge.range(Baths::busy, "best", (x, v) -> x.best(v), 0, 3, 4, 2);
        edge.range(Baths::seven, "best of seven", (x, v) -> x.best(v), 0, 3, 6, 3);
        edge.bad(Baths::fresh, "nobody is there", x -> x.best(0));
    }

    private void cost() {
        edge.says(17, "COST of one in an open LANE: how many SECONDS more a length takes all others in it together, by its being there.");
        int[][] costs = {{0, 2, 6, 0}, {26, 2, 6, 0}, {1, 0, 6, 0}, {1, 1, 6, 0}, {14, 2, 0, 0}};
        for (int p = 0; p < 5; p++) {
            for (int l = 0; l < 4; l++) {
                int one = p;
                int at = l;
                edge.asks(Baths::busy, "of " + p + " in " + l, x -> x.cost(one, at), costs[p][l]);
            }
        }
        SwimLanes seven = Due.bathOf(0, 90, 0, 0, 20, 0, 0, 20, 0, 0, 20, 0, 0, 20, 0, 0, 20, 0, 0, 20, 0);
        edge.is("six who need 96 for 25", seven.cost(0, 0), 6 * 71);
        edge.is("one that is quick among seven", seven.cost(1, 0), 6);
    }

    private void costBad() {
        edge.says(17, "BAD;");
        edge.range(Baths::busy, "cost of", (x, v) -> x.cost(v, 1), 0, 2, 4, 2);
        edge.range(Baths::busy, "cost in", (x, v) -> x.cost(1, v), 0, 26, 3, 0);
        edge.bad(Baths::nobody, "nobody is there", x -> x.cost(0, 2));
    }

    private void costNo() {
        edge.says(17, "NO: it is shut.");
        edge.no(Baths::lane3Shut, "cost(0, 3)", x -> x.cost(0, 3));
        edge.asks(Baths::lane3Shut, "cost(0, 2)", x -> x.cost(0, 2), 0);
        SwimLanes x = Baths.lane3Shut();
        x.shut(3, 0);
        edge.is("opened", x.cost(0, 3), 0);
    }

    private void where() {
        edge.says(18, "WHERE: the open LANE in which that is least; of like ones the least.");
        int[] where = {0, 3, 1, 3, 2};
        int[] without3 = {0, 1, 1, 0, 2};
        for (int p = 0; p < 5; p++) {
            int one = p;
            edge.asks(Baths::busy, "of " + p, x -> x.where(one), where[p]);
            SwimLanes x = Baths.busy();
            x.shut(3, 1);
            edge.is("of " + p + ", 3 is shut", x.where(p), without3[p]);
        }
        edge.is("alone", Due.bathOf(0, 50, 3).where(0), 0);
        SwimLanes x = Due.bathOf(0, 50, 3);
        x.shut(0, 1);
        edge.is("alone, 0 is shut", x.where(0), 1);
        SwimLanes only = Baths.sevenInLane0();
        only.shut(1, 1);
        only.shut(2, 1);
        edge.is("the only open one", only.where(4), 0);
    }

    private void whereBad() {
        edge.says(18, "BAD.");
        edge.range(Baths::busy, "where", (x, v) -> x.where(v), 0, 0, 4, 2);
        edge.bad(Baths::fresh, "nobody is there", x -> x.where(0));
    }

    private void obey() {
        edge.says(19, "OBEY: SWIMMERS (bits) whose LANE has the SIGN of their PACE");
        edge.asks(Baths::busy, "five", x -> x.obey(0), 2 + 8 + 16);
        edge.asks(Baths::nobody, "nobody", x -> x.obey(0), 0);
        SwimLanes all = Due.bathOf(0, 60, 0, 0, 90, 0, 0, 59, 1, 0, 40, 2, 0, 39, 3, 0, 20, 3, 2, 60, 0);
        edge.is("all seven", all.obey(0), 127);
        SwimLanes none = Due.bathOf(0, 59, 0, 0, 39, 1, 0, 60, 2, 0, 40, 3, 0, 20, 0, 0, 90, 3, 2, 40, 0);
        edge.is("none of seven", none.obey(0), 0);
    }

    private void obeyBelieved() {
        edge.says(19, "of what they BELIEVE it to be.");
        int[][] proud = {{75, 0}, {74, 1}, {55, 1}, {54, 2}};
        int[][] sprinters = {{65, 0}, {64, 1}, {45, 1}, {44, 2}};
        int[][] others = {{60, 0}, {59, 1}, {40, 1}, {39, 2}};
        int[][][] paces = {others, others, proud, others, proud, sprinters};
        for (int kind = 0; kind < 6; kind++) {
            for (int[] pace : paces[kind]) {
                for (int sign = 0; sign < 3; sign++) {
                    SwimLanes x = Due.bathOf(3, 20, 0, kind, pace[0], 1);
                    x.sign(0, 0);
                    x.sign(1, sign);
                    edge.is(kind + " of " + pace[0] + " by sign " + sign, x.obey(1), sign == pace[1] ? 2 : 0);
                }
            }
        }
        edge.asks(Baths::nobody, "nobody", x -> x.obey(1), 0);
    }

    private void obeyBad() {
        edge.says(19, "OBEY by PACE (0), by what they BELIEVE (1), as bits. BAD.");
        edge.range(Baths::busy, "obey", (x, v) -> x.obey(v), 0, 26, 1, 26);
        edge.range(Baths::nobody, "obey, nobody there", (x, v) -> x.obey(v), 0, 0, 1, 0);
    }

    private void all() {
        edge.says(20, "how many (0: nobody is there)");
        edge.asks(Baths::fresh, "nobody", x -> x.all(-1), 0);
        edge.asks(Baths::nobody, "nobody any more", x -> x.all(-1), 0);
        edge.asks(() -> Due.bathOf(4, 20, 3), "one", x -> x.all(-1), 20);
        edge.asks(Baths::busy, "five", x -> x.all(-1), 280);
        edge.says(20, "ALL: each in some open LANE, so that a length takes all together fewest SECONDS");
        SwimLanes only = Due.bathOf(0, 50, 2, 0, 60, 2, 4, 70, 2);
        for (int l : new int[] {0, 1, 3}) {
            only.shut(l, 1);
        }
        edge.is("all in the only one that is open", only.all(-1), 72 + 72 + 77);
        for (int p = 0; p < 3; p++) {
            edge.is("the lane of " + p, only.all(p), 2);
        }
        only.shut(3, 0);
        edge.is("two are open", only.all(-1), 61 + 61 + 70);
    }

    private void allFirstWay() {
        edge.says(20, "the LANE of one in the first such way (rising).");
        SwimLanes four = Due.bathOf(0, 50, 3, 0, 50, 3, 0, 50, 3, 0, 50, 3);
        for (int p = 0; p < 4; p++) {
            edge.is("four alike, lane of " + p, four.all(p), p);
        }
        SwimLanes wall = Due.bathOf(3, 20, 3, 3, 30, 2, 3, 90, 1, 3, 20, 1, 3, 21, 2, 3, 22, 3, 3, 23, 3);
        for (int p = 0; p < 7; p++) {
            edge.is("seven at the wall, lane of " + p, wall.all(p), 0);
        }
        wall.shut(0, 1);
        edge.is("0 is shut, lane of 6", wall.all(6), 1);
        int[] lanes = {0, 1, 2, 1, 3};
        for (int p = 0; p < 5; p++) {
            int one = p;
            edge.asks(Baths::busy, "of five, lane of " + p, x -> x.all(one), lanes[p]);
        }
        SwimLanes alike = Due.bathOf(0, 50, 0, 0, 50, 0, 0, 50, 0, 0, 50, 0, 0, 50, 0);
        int[] first = {0, 0, 1, 2, 3};
        for (int p = 0; p < 5; p++) {
            edge.is("five alike, lane of " + p, alike.all(p), first[p]);
        }
    }

    private void allBad() {
        edge.says(20, "ALL: how many (p = NONE), the LANE of one. BAD: -10.");
        edge.rangeElse(-10, Baths::busy, "all", (x, v) -> x.all(v), new long[] {-1, 280, 4, 3});
        edge.rangeElse(-10, Baths::nobody, "all, nobody there", (x, v) -> x.all(v), new long[] {-1, 0, -1, 0});
        edge.does(Baths::seven, "of the 7th", x -> x.all(6) < 0 ? -1 : 0, 0);
        edge.badAs(-10, Baths::seven, "of an 8th", x -> x.all(7));
    }

    private void changes() {
        edge.says(21, "how many changes there are, till nobody would");
        edge.asks(Baths::fresh, "nobody", x -> x.changes(-1), 0);
        edge.asks(() -> Due.bathOf(0, 50, 3), "one", x -> x.changes(-1), 0);
        edge.asks(Baths::busy, "five", x -> x.changes(-1), 1);
        int[] lanes = {3, 0, 1, 1, 2};
        for (int p = 0; p < 5; p++) {
            int one = p;
            edge.asks(Baths::busy, "the lane of " + p + " then", x -> x.changes(one), lanes[p]);
        }
        edge.is("only the last one would", Due.bathOf(3, 30, 0, 3, 30, 0, 0, 30, 0).changes(-1), 1);
        edge.is("only the first one would", Due.bathOf(0, 30, 0, 3, 30, 0, 3, 30, 0).changes(-1), 1);
        SwimLanes shut = Due.bathOf(0, 50, 2, 0, 90, 2);
        for (int l : new int[] {0, 1, 3}) {
            shut.shut(l, 1);
        }
        edge.is("only one lane is open", shut.changes(-1), 0);
        shut.shut(3, 0);
        edge.is("two lanes are open", shut.changes(-1), 1);
        edge.is("lane of 0", shut.changes(0), 3);
        edge.is("lane of 1", shut.changes(1), 2);
    }

    private void changesOnlyIfFewer() {
        edge.says(21, "each goes to the LANE that is BEST, if it takes fewer SECONDS there");
        SwimLanes alike = Due.bathOf(0, 50, 3);
        edge.is("the best one", alike.best(0), 0);
        edge.is("as many seconds there", alike.changes(-1), 0);
        edge.is("stays", alike.changes(0), 3);
        SwimLanes fewer = Due.bathOf(0, 50, 3, 3, 20, 3);
        edge.is("one second fewer", fewer.changes(-1), 1);
        edge.is("goes to the least of like ones", fewer.changes(0), 0);
        edge.is("by numbers: the second in another", Due.bathOf(0, 50, 3, 0, 50, 3, 3, 20, 3).changes(1), 1);
    }

    /** 1 goes to 0's lane, and only then, the last having had its turn, 0 would go, too. */
    private void changesRoundAndRound() {
        edge.says(21, "by numbers, round and round");
        SwimLanes x = Due.bathOf(0, 30, 0, 4, 90, 1, 3, 30, 1, 3, 30, 1);
        x.shut(2, 1);
        x.shut(3, 1);
        edge.is("changes", x.changes(-1), 2);
        edge.is("lane of 0", x.changes(0), 1);
        edge.is("lane of 1", x.changes(1), 0);
        SwimLanes three = Due.bathOf(0, 30, 0, 0, 30, 0, 0, 30, 0);
        edge.is("the first two of three alike", three.changes(-1), 2);
        edge.is("0 first", three.changes(0), 1);
        edge.is("then 1", three.changes(1), 2);
        edge.is("2 stays", three.changes(2), 0);
    }

    private static SwimLanes restless() {
        SwimLanes x = Due.bathOf(5, 33, 1, 1, 35, 1, 2, 45, 1, 1, 42, 1, 4, 60, 0, 0, 64, 0);
        x.shut(2, 1);
        x.shut(3, 1);
        return x;
    }

    private void changesCut() {
        edge.says(21, "(60 at most)");
        edge.asks(EdgesOfLanes::restless, "they never rest", x -> x.changes(-1), 60);
        SwimLanes x = restless();
        int[] lanes = {1, 1, 1, 1, 0, 0};
        int changed = 0;
        for (int turn = 0; changed < 60 && turn < 140; turn++) {
            int p = turn % 6;
            int best = x.best(p);
            if (x.seconds(p, best, 0) < x.seconds(p, lanes[p], 0)) {
                x.goes(p, best);
                lanes[p] = best;
                changed++;
            }
        }
        edge.is("changes one by one", changed, 60);
        SwimLanes asked = restless();
        for (int p = 0; p < 6; p++) {
            edge.is("the lane of " + p + " behind 60", asked.changes(p), lanes[p]);
        }
        edge.is("somebody would still", Math.min(x.changes(-1), 1), 1);
    }

    private void changesBad() {
        edge.says(21, "CHANGES: how many (p = NONE), the LANE of one. BAD: -10.");
        edge.rangeElse(-10, Baths::busy, "changes", (x, v) -> x.changes(v), new long[] {-1, 1, 4, 2});
        edge.rangeElse(-10, Baths::nobody, "changes, nobody there", (x, v) -> x.changes(v), new long[] {-1, 0, -1, 0});
        edge.badAs(-10, Baths::seven, "of an 8th", x -> x.changes(7));
    }

    private void orders() {
        edge.says(22, "those in a LANE (WALL ones, too) start one behind the other");
        edge.asks(Baths::busy, "lane 1, one of them at the wall", x -> x.order(1, 60, 1, -1), 2);
        edge.asks(Baths::busy, "lane 1, the second", x -> x.order(1, 0, 1, 1), 3);
        SwimLanes seven = Due.bathOf(0, 50, 1, 1, 50, 1, 2, 50, 1, 3, 50, 1, 4, 50, 1, 5, 50, 1, 3, 50, 1);
        edge.is("seven alike", seven.order(1, 0, 1, -1), 5040);
        for (int i = 0; i < 7; i++) {
            edge.is("seven alike, the first order, place " + i, seven.order(1, 0, 9, i), i);
        }
        SwimLanes steps = Due.bathOf(0, 80, 0, 0, 70, 0, 0, 60, 0, 0, 50, 0, 0, 40, 0, 0, 30, 0, 0, 20, 0);
        edge.is("seven unlike, 60 apart", steps.order(0, 60, 1, -1), 5040);
        edge.is("seven unlike, 59 apart: not 20 right behind 80", steps.order(0, 59, 1, -1), 5040 - 720);
        edge.is("seven unlike, 10 apart", steps.order(0, 10, 1, -1), 64);
        edge.is("seven unlike, 9 apart", steps.order(0, 9, 1, -1), 1);
        for (int i = 0; i < 7; i++) {
            edge.is("by pace alone, place " + i, steps.order(0, 9, 1, i), 6 - i);
        }
    }

    private void ordersOfNobody() {
        edge.says(22, "how many orders there are (of nobody: one)");
        edge.asks(Baths::busy, "of nobody", x -> x.order(3, 0, 1, -1), 1);
        edge.asks(Baths::lane3Shut, "of nobody, shut", x -> x.order(3, 60, 9, -1), 1);
        edge.asks(Baths::fresh, "of nobody at all", x -> x.order(0, 0, 9, -1), 1);
        edge.asks(Baths::busy, "of one", x -> x.order(2, 0, 9, -1), 1);
        edge.asks(Baths::busy, "of one, who", x -> x.order(2, 0, 9, 0), 4);
    }

    private void ordersNoEarlier() {
        edge.says(22, "none catches up, if each comes there (behind n lengths) no earlier than the one ahead");
        edge.asks(Baths::busy, "25 of 1 length, 25 apart", x -> x.order(0, 25, 1, -1), 2);
        edge.asks(Baths::busy, "25 of 1 length, 24 apart", x -> x.order(0, 24, 1, -1), 1);
        edge.asks(Baths::busy, "25 of 2 lengths, 50 apart", x -> x.order(0, 50, 2, -1), 2);
        edge.asks(Baths::busy, "25 of 2 lengths, 49 apart", x -> x.order(0, 49, 2, -1), 1);
        edge.asks(Baths::busy, "25 of 9 lengths, 60 apart", x -> x.order(0, 60, 9, -1), 1);
        SwimLanes nine = Due.bathOf(0, 26, 0, 0, 20, 0);
        edge.is("6 of 9 lengths, 54 apart", nine.order(0, 54, 9, -1), 2);
        edge.is("6 of 9 lengths, 53 apart", nine.order(0, 53, 9, -1), 1);
        SwimLanes least = Due.bathOf(0, 51, 0, 0, 50, 0);
        edge.is("1 of 1 length, 1 apart", least.order(0, 1, 1, -1), 2);
        edge.is("1 of 1 length, none apart", least.order(0, 0, 1, -1), 1);
        edge.is("1 of 9 lengths, 9 apart", least.order(0, 9, 9, -1), 2);
        edge.is("1 of 9 lengths, 8 apart", least.order(0, 8, 9, -1), 1);
        SwimLanes alike = Due.bathOf(0, 50, 0, 0, 50, 0);
        edge.is("alike, none apart", alike.order(0, 0, 9, -1), 2);
    }

    private void ordersFirst() {
        edge.says(22, "the i-th one in the first (rising)");
        SwimLanes x = Due.bathOf(0, 70, 0, 0, 45, 0);
        edge.is("25 apart, first", x.order(0, 25, 1, 0), 0);
        edge.is("25 apart, second", x.order(0, 25, 1, 1), 1);
        edge.is("24 apart, first", x.order(0, 24, 1, 0), 1);
        edge.is("24 apart, second", x.order(0, 24, 1, 1), 0);
        // 0 could start, and 2 follow it, but then nobody is left whom 1 may follow
        SwimLanes later = Due.bathOf(0, 70, 0, 0, 40, 0, 0, 60, 0, 0, 50, 0);
        int[] first = {0, 2, 3, 1};
        for (int i = 0; i < 4; i++) {
            edge.is("10 apart, place " + i, later.order(0, 10, 1, i), first[i]);
        }
        SwimLanes mixed = Due.bathOf(0, 90, 1, 0, 30, 0, 0, 20, 1, 0, 25, 0);
        edge.is("only those in the lane", mixed.order(0, 60, 1, 0), 1);
        edge.is("only those in the lane, second", mixed.order(0, 60, 1, 1), 3);
    }

    private void orderNotSoMany() {
        edge.says(22, "-5: not so many.");
        edge.asks(Baths::busy, "the second of two", x -> x.order(0, 0, 1, 1), 1);
        edge.asks(Baths::busy, "the third of two", x -> x.order(0, 0, 1, 2), -5);
        edge.asks(Baths::busy, "the first of nobody", x -> x.order(3, 0, 1, 0), -5);
        edge.asks(Baths::busy, "the greatest i", x -> x.order(0, 0, 1, Integer.MAX_VALUE), -5);
        edge.asks(Baths::sevenInLane0, "the 7th of seven", x -> x.order(0, 0, 1, 6), 4);
        edge.asks(Baths::sevenInLane0, "the 8th of seven", x -> x.order(0, 0, 1, 7), -5);
        edge.asks(Baths::fresh, "nobody at all", x -> x.order(0, 0, 1, 0), -5);
    }

    private void orderBad() {
        edge.says(22, "ORDER: how many (i = NONE), the i-th one. NONE: none (i from 0 on). -5: not so many. BAD: -10.");
        edge.rangeElse(-10, Baths::busy, "order of lane", (x, v) -> x.order(v, 0, 1, -1), new long[] {0, 1, 3, 1});
        edge.rangeElse(-10, Baths::busy, "order, g", (x, v) -> x.order(0, v, 1, -1), new long[] {0, 1, 60, 2});
        edge.rangeElse(-10, Baths::busy, "order, n", (x, v) -> x.order(0, 60, v, -1), new long[] {1, 2, 9, 1});
        edge.badAs(-10, Baths::busy, "i = -2", x -> x.order(0, 0, 1, -2));
        edge.badAs(-10, Baths::busy, "the least i", x -> x.order(0, 0, 1, Integer.MIN_VALUE));
        edge.badAs(-10, Baths::busy, "not so many, and no lane", x -> x.order(4, 0, 1, 9));
        edge.badAs(-10, Baths::busy, "not so many, and no g", x -> x.order(0, 61, 1, 9));
        edge.badAs(-10, Baths::busy, "not so many, and no n", x -> x.order(0, 0, 0, 9));
    }

    private void apart() {
        edge.says(23, "APART: the least g (0 .. 600) by which in the order of their numbers none catches up");
        edge.asks(Baths::busy, "rising", x -> x.apart(0, 9), 0);
        edge.asks(Baths::busy, "one", x -> x.apart(2, 9), 0);
        edge.asks(Baths::busy, "nobody", x -> x.apart(3, 9), 0);
        edge.asks(Baths::lane3Shut, "nobody, shut", x -> x.apart(3, 1), 0);
        SwimLanes x = Due.bathOf(0, 51, 0, 3, 90, 1, 0, 50, 0, 0, 70, 0, 0, 70, 0, 0, 68, 0);
        edge.is("the greatest step down, between neighbours", x.apart(0, 1), 2);
        edge.is("of 9 lengths", x.apart(0, 9), 18);
        SwimLanes last = Due.bathOf(0, 90, 0, 0, 89, 0);
        edge.is("one second", last.apart(0, 1), 1);
        edge.is("others between by number, not in the lane", Due.bathOf(0, 90, 0, 0, 20, 1, 0, 80, 0).apart(0, 1), 10);
    }

    private void apartOnlyMore() {
        edge.says(23, "none: only more.");
        edge.asks(() -> Due.bathOf(0, 90, 0, 0, 24, 0), "9 times 66", x -> x.apart(0, 9), 594);
        edge.asks(() -> Due.bathOf(0, 90, 0, 0, 23, 0), "9 times 67", x -> x.apart(0, 9), -1);
        edge.asks(() -> Due.bathOf(0, 90, 0, 0, 20, 0), "9 times 70", x -> x.apart(0, 9), -1);
        edge.asks(() -> Due.bathOf(0, 90, 0, 0, 20, 0), "8 times 70", x -> x.apart(0, 8), 560);
    }

    private void apartBad() {
        edge.says(23, "APART. NONE. BAD.");
        SwimLanes x = Due.bathOf(0, 90, 0, 0, 60, 0);
        edge.is("n = 1", x.apart(0, 1), 30);
        edge.is("n = 9", x.apart(0, 9), 270);
        edge.range(Baths::busy, "apart in lane", (y, v) -> y.apart(v, 1), 0, 0, 3, 0);
        edge.range(() -> Due.bathOf(0, 90, 0, 0, 60, 0), "apart, n", (y, v) -> y.apart(0, v), 1, 30, 9, 270);
    }
}
