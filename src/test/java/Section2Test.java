/**
 * The terms, and "2. What is told": each sentence that names a boundary has a test of its own, with the last value
 * that is allowed and the first that isn't.
 */
public final class Section2Test extends Scripts {
    // 2 to the 63rd, which is the least number of 64 bits; one less is the greatest.
    private static final String LEAST = "(4096*4096*4096*4096*4096*8)";
    private static final String GREATEST = "(4096*4096*4096*4096*4096*8-1)";
    private static final long FACTOR = 6364136223846793005L;
    private static final long SUMMAND = 1442695040888963407L;

    public static void main(String[] args) {
        runAll(Section2Test.class);
    }

    private static long next(long z) {
        return z * FACTOR + SUMMAND;
    }

    private static long thrown(long z, long sides) {
        return 1 + (z >>> 33) % sides;
    }

    /** What an act's expression yields, with player 1 of 3 as the owner and player 2 as the target. */
    private static void yields(String expression, int want) {
        RuleStack x = good("pool a -999 to 999 at 7; track t -9 to 9 at 2; phase p:x; act x do set a " + expression + "; end win 0;");
        run(x, expression, "begin 3 7 = 0\npass = 0\nact 0 2 = 1\npass = 0\npass = 0\npool 0 = " + want);
    }

    // ---- how it is reckoned

    static void section0WrapsAround() {
        sentence("Terms", "All is reckoned in 64-bit integers, which wrap around");
        yields(GREATEST + " > 0", 1);
        yields(GREATEST + " + 1 < 0", 1);
        yields(GREATEST + " + 1 = " + LEAST, 1);
        yields("(" + GREATEST + " - 1) + 1 = " + GREATEST, 1);
        yields(LEAST + " < 0", 1);
        yields(LEAST + " - 1 = " + GREATEST, 1);
        yields("(" + LEAST + " + 1) - 1 < 0", 1);
        yields("-" + LEAST + " = " + LEAST, 1);
        yields("-" + GREATEST + " = " + LEAST + " + 1", 1);
        // 2 to the 62nd, 63rd and 64th.
        yields("4096*4096*4096*4096*4096*4 > 0", 1);
        yields("4096*4096*4096*4096*4096*8 > 0", 0);
        yields("4096*4096*4096*4096*4096*16", 0);
        yields(GREATEST + " * 2", -2);
        yields(GREATEST + " * " + GREATEST, 1);
        yields(LEAST + " * " + LEAST, 0);
        yields(LEAST + " * -1 = " + LEAST, 1);
        // Nothing wraps around at 32 bits.
        yields("4096*4096*128 > 0", 1);
        yields("4096*4096*256 > 0", 1);
        yields("4096*4096*256 = 0", 0);
        yields("-4096*4096*256 < -4096*4096*128", 1);
        yields("9999*9999*9999*9999 / 9999 / 9999 / 9999 = 9999", 1);
    }

    static void section0DivisionBy0() {
        sentence("Terms", "/ and % by 0 yield 0");
        yields("7 / 0", 0);
        yields("-7 / 0", 0);
        yields("0 / 0", 0);
        yields("7 % 0", 0);
        yields("-7 % 0", 0);
        yields("0 % 0", 0);
        yields(LEAST + " / 0", 0);
        yields(LEAST + " % 0", 0);
        yields("7 / 0 + 5", 5);
        yields("7 % 0 - 5", -5);
        yields("7 / 1", 7);
        yields("7 / -1", -7);
        yields("7 % 1", 0);
        yields("7 % -1", 0);
        yields("7 / (1 - 1)", 0);
        yields("7 % (4096*4096*4096*4096*4096*16)", 0);
        yields(LEAST + " / -1 = " + LEAST, 1);
        yields(LEAST + " % -1", 0);
        yields(LEAST + " / 1 = " + LEAST, 1);
    }

    static void section0CutTowards0() {
        sentence("Terms", "/ is cut towards 0");
        yields("6 / 3", 2);
        yields("5 / 3", 1);
        yields("2 / 3", 0);
        yields("-2 / 3", 0);
        yields("-3 / 3", -1);
        yields("-5 / 3", -1);
        yields("-6 / 3", -2);
        yields("5 / -3", -1);
        yields("2 / -3", 0);
        yields("-5 / -3", 1);
        yields("-2 / -3", 0);
        yields("-6 / -3", 2);
    }

    static void section0SignOfTheLeft() {
        sentence("Terms", "% has the sign of the left operand.");
        yields("7 % 3", 1);
        yields("7 % -3", 1);
        yields("-7 % 3", -1);
        yields("-7 % -3", -1);
        yields("6 % 3", 0);
        yields("-6 % 3", 0);
        yields("2 % 3", 2);
        yields("-2 % 3", -2);
        yields("2 % -3", 2);
    }

    // ---- players and values

    static void section2PlayersFrom2To4() {
        sentence("Section 2", "A game has 2 to 4 players, numbered from 0.");
        RuleStack x = good("track t 0 to 9 at 3; phase p:x; act x do end win 0;");
        run(x, """
            begin 1 0 = IAE
            begin 5 0 = IAE
            begin 2 0 = 0
            count 7 = 2
            track 0 0 = 3
            track 1 0 = 3
            track 2 0 = IOOBE
            track -1 0 = IOOBE
            canAct 0 1 = true
            canAct 0 2 = IOOBE
            begin 3 0 = 0
            count 7 = 3
            track 2 0 = 3
            track 3 0 = IOOBE
            canAct 0 2 = true
            canAct 0 3 = IOOBE
            begin 4 0 = 0
            count 7 = 4
            track 3 0 = 3
            track 4 0 = IOOBE
            canAct 0 3 = true
            canAct 0 4 = IOOBE
            """);
    }

    static void section2PlayerBehind() {
        sentence("Section 2", "The player behind a player is the next one, behind the last one the first one.");
        for (int players = 2; players <= 4; players++) {
            RuleStack x = good("phase p:x; act x do end reply y do end win 0;");
            run(x, players + " players", "begin " + players + " 0 = 0");
            for (int turn = 0; turn < players; turn++) {
                int behind = turn + 1 < players ? turn + 1 : 0;
                run(x, players + " players", "told 1 = " + turn + "\nact 0 0 = 1\ntold 3 = " + behind);
                // A reply is answered by the one behind it, too, and so is a pass.
                int far = behind + 1 < players ? behind + 1 : 0;
                run(x, "reply 0 0 = 2\ntold 3 = " + far);
                int farther = far + 1 < players ? far + 1 : 0;
                run(x, "pass = 0\ntold 3 = " + (players == 2 ? behind : farther));
                for (int left = 0; left < 2 * (players - 1) - 1; left++) {
                    run(x, "pass = 0");
                }
                run(x, "count 9 = 0\npass = 0\ntold 1 = " + behind);
            }
        }
    }

    static void section2ThirdWholeAtFirst() {
        sentence("Section 2", "the third whole at first");
        RuleStack x = good("track a 2 to 9 at 2; track b 2 to 9 at 9; track c -9 to -2 at -9; pool d 2 to 9 at 9;"
            + "pool e 2 to 9 at 2; pool f -9 to -2 at -2; pool g 999 to 999 at 999; pool h -999 to -999 at -999;"
            + "phase p:x; act x do set d 5; set my a 5; end win 0;");
        run(x, "pool 0 = 9\npool 1 = 2\npool 2 = -2\npool 3 = 999\npool 4 = -999\nbegin 4 0 = 0");
        for (int player = 0; player < 4; player++) {
            run(x, "track " + player + " 0 = 2\ntrack " + player + " 1 = 9\ntrack " + player + " 2 = -9");
        }
        run(x, """
            pool 0 = 9
            pool 1 = 2
            pool 2 = -2
            pool 3 = 999
            pool 4 = -999
            act 0 0 = 1
            pass = 0
            pass = 0
            pass = 0
            pool 0 = 5
            track 0 0 = 5
            begin 4 0 = 0
            pool 0 = 9
            track 0 0 = 2
            """);
    }

    static void section2AValueForEachPlayerAndPool() {
        sentence("Section 2", "Each player has a value for each track, the table one for each pool");
        // Six tracks of four players and six pools: what is set in one of them leaves the others.
        for (int track = 0; track < 6; track++) {
            RuleStack x = good(items("track t%c 0 to 99 at 50; ", 6) + items("pool u%c 0 to 99 at 40; ", 6)
                + "phase p:x, y; act x do set their t" + (char) ('a' + track) + " 7; end act y do set u" + (char) ('a' + track) + " 8; end win 0;");
            run(x, "begin 4 0 = 0\nact 0 " + track % 4 + " = 1\npass = 0\npass = 0\npass = 0");
            for (int player = 0; player < 4; player++) {
                for (int other = 0; other < 6; other++) {
                    run(x, "track " + player + " " + other + " = " + (player == track % 4 && other == track ? 7 : 50));
                }
            }
            run(x, "act 1 0 = 1\npass = 0\npass = 0\npass = 0");
            for (int pool = 0; pool < 6; pool++) {
                run(x, "pool " + pool + " = " + (pool == track ? 8 : 40) + "\ntrack 3 " + pool + " = " + (track == 3 && pool == 3 ? 7 : 50));
            }
        }
    }

    static void section2MyAndTheir() {
        sentence("Section 2", "my x is the owner's track x, their x the target's");
        RuleStack x = good("track t 0 to 99 at 0; pool a 0 to 999 at 0; phase p:x, y; act x do set my t me + 1; set their t 10 * (them + 1); end "
            + "act y do set a my t * 100 + their t; end win 0;");
        run(x, "begin 4 0 = 0");
        for (int owner = 0; owner < 4; owner++) {
            int target = (owner + 2) % 4;
            run(x, "act 0 " + target + " = 1\npass = 0\npass = 0\npass = 0\ntrack " + owner + " 0 = " + (owner + 1) + "\ntrack " + target
                + " 0 = " + 10 * (target + 1));
            run(x, "act 1 " + target + " = 1\npass = 0\npass = 0\npass = 0\npool 0 = " + ((owner + 1) * 100 + 10 * (target + 1)));
            run(x, "act 1 " + owner + " = 1\npass = 0\npass = 0\npass = 0\npool 0 = " + (owner + 1) * 101 + "\npass = 0");
        }
    }

    /** What is left of a value that is set or added in a place of -3 to 5, where 1 is at first. */
    private static void kept(String told, int want) {
        String[] places = {"my t ", "their t ", "a "};
        String[] asked = {"track 0 0", "track 1 0", "pool 0"};
        for (int i = 0; i < places.length; i++) {
            String statement = told.replace("set ", "set " + places[i]).replace("add ", "add " + places[i]);
            RuleStack x = good("pool a -3 to 5 at 1; track t -3 to 5 at 1; phase p:x; act x do " + statement + "; end win 0;");
            run(x, statement, "begin 2 0 = 0\nact 0 1 = 1\npass = 0\n" + asked[i] + " = " + want);
            run(x, statement, (i == 0 ? "" : "track 0 0 = 1\n") + (i == 1 ? "" : "track 1 0 = 1\n") + (i == 2 ? "" : "pool 0 = 1"));
        }
    }

    static void section2AtLeastTheFirstWhole() {
        sentence("Section 2", "whatever is set or added, a value is at least the first whole");
        kept("set -2", -2);
        kept("set -3", -3);
        kept("set -4", -3);
        kept("set -9999", -3);
        kept("set " + LEAST, -3);
        kept("add -3", -2);
        kept("add -4", -3);
        kept("add -5", -3);
        kept("add -9999", -3);
        kept("add " + LEAST, -3);
        // What is cut off is not remembered.
        kept("add -9; add 2", -1);
        kept("set -9; add 2", -1);
    }

    static void section2AtMostTheSecondWhole() {
        sentence("Section 2", "and at most the second one (what would be less or greater becomes that)");
        kept("set 4", 4);
        kept("set 5", 5);
        kept("set 6", 5);
        kept("set 9999", 5);
        kept("set " + GREATEST, 5);
        kept("add 3", 4);
        kept("add 4", 5);
        kept("add 5", 5);
        kept("add 9999", 5);
        kept("add 9; add -2", 3);
        kept("set 9; add -2", 3);
        // Numbers whose lower 32 bits alone would be between the wholes.
        kept("set 4096*4096*256", 5);
        kept("set -4096*4096*256", -3);
        kept("add 4096*4096*256", 5);
        kept("add -4096*4096*256", -3);
        kept("set 4096*4096*256 + 2", 5);
    }

    static void section2AddWrapsAround() {
        sentence("Terms", "64-bit integers, which wrap around");
        // 1 and the greatest number are the least one.
        kept("add " + GREATEST, -3);
        kept("add " + GREATEST + " - 1", 5);
        kept("set -1; add " + LEAST, 5);
        kept("set 0; add " + LEAST, -3);
        kept("set 0; add " + GREATEST, 5);
    }

    static void section2TheWidestBounds() {
        sentence("Section 2", "a value is at least the first whole, and at most the second one");
        RuleStack x = good("pool a -999 to 999 at 0; pool b 7 to 7 at 7; phase p:x, y, z; act x do set a 999; set b 6; end "
            + "act y do add a 1; add b 1; end act z do set a -999; add a -1; add b -1; end win 0;");
        run(x, """
            begin 2 0 = 0
            act 0 0 = 1
            pass = 0
            pool 0 = 999
            pool 1 = 7
            act 1 0 = 1
            pass = 0
            pool 0 = 999
            pool 1 = 7
            act 2 0 = 1
            pass = 0
            pool 0 = -999
            pool 1 = 7
            """);
    }

    // ---- owner and target

    static void section2OwnerAndTargetTheSame() {
        sentence("Section 2", "An expression has an owner and a target, two players (they can be the same)");
        RuleStack x = good("track t 0 to 99 at 10; pool a 0 to 99 at 0; phase p:x; act x do add my t 1; add their t 2; "
            + "set a me * 10 + them; end win 0;");
        run(x, """
            begin 3 0 = 0
            act 0 0 = 1
            pass = 0
            pass = 0
            track 0 0 = 13
            track 1 0 = 10
            track 2 0 = 10
            pool 0 = 0
            act 0 2 = 1
            pass = 0
            pass = 0
            track 0 0 = 14
            track 1 0 = 10
            track 2 0 = 12
            pool 0 = 2
            pass = 0
            act 0 1 = 1
            pass = 0
            pass = 0
            track 1 0 = 13
            pool 0 = 11
            """);
    }

    static void section2MeThemPlayersRoundDepth() {
        sentence("Section 2", "me and them are the numbers of owner and target; players how many there are; round the round; "
            + "depth the number of acts and replies on the stack.");
        for (int players = 2; players <= 4; players++) {
            RuleStack x = good("pool a 0 to 999 at 0; pool d 0 to 99 at 99; phase p:x; act x do set a me * 100 + them * 10 + players; "
                + "set d depth; end reply y when depth = 9 do set d depth; end reply z do set d depth; end win 0;");
            int last = players - 1;
            run(x, "begin " + players + " 0 = 0");
            for (int i = 0; i < last; i++) {
                run(x, "pass = 0");
            }
            run(x, "act 0 " + last + " = 1\ncanReply 0 0 = false");
            for (int height = 2; height <= 10; height++) {
                run(x, "canReply 0 0 = " + (height - 1 == 9) + "\nreply 1 0 = " + height);
            }
            run(x, "canReply 0 0 = false");
            for (int depth = 9; depth >= 0; depth--) {
                for (int pass = 0; pass < last; pass++) {
                    run(x, "pass = 0");
                }
                run(x, "pool 1 = " + depth);
            }
            run(x, "pool 0 = " + (last * 110 + players));
        }
    }

    static void section2RoundInExpressions() {
        sentence("Section 2", "round the round");
        RuleStack x = good("pool a 0 to 99 at 99; phase p:x; act x do end rule r at p do set a round; end win 0;");
        run(x, "begin 2 0 = 0");
        for (int round = 1; round <= 50; round++) {
            run(x, "pool 0 = " + round + "\npass = 0\npool 0 = " + round + "\npass = " + (round == 50 ? 2 : 0));
        }
        run(x, "pool 0 = 50\ntold 0 = 50");
    }

    // ---- dice

    /** Throws a die of the sides, told as an expression, that is known to be taken as one of so many. */
    private static void dice(String sides, long taken) {
        RuleStack x = good("pool a 0 to 999 at 0; pool b 0 to 9 at 0; phase p:x; act x do set a (die " + sides + ") - 1; end win 0;");
        for (long z : new long[] {0, 1, -1, 7, 123456789, Long.MAX_VALUE, Long.MIN_VALUE, 5555555555555L, -99}) {
            run(x, "die " + sides, "begin 2 " + z + " = 0\nz = " + z + "\nact 0 0 = 1\nz = " + z + "\npass = 0\nz = " + next(z)
                + "\npool 0 = " + (thrown(next(z), taken) - 1));
        }
    }

    static void section2DieFormula() {
        sentence("Section 2", "z becomes z * 6364136223846793005 + 1442695040888963407; the throw is 1 and the remainder of z, "
            + "shifted right by 33 bits (filled with 0), by the number of sides");
        dice("6", 6);
        dice("2", 2);
        dice("20", 20);
        dice("999", 999);
        // The shift is filled with 0: what z becomes here is negative, and the throw is 1 to 6 all the same.
        due("z becomes negative", "" + (next(1) < 0 || next(2) < 0 || next(3) < 0 || next(5) < 0), "true");
        for (long z = 0; z < 20; z++) {
            RuleStack x = good("pool a -99 to 99 at 0; phase p:x; act x do set a die 6; end win 0;");
            run(x, "begin 2 " + z + " = 0\nact 0 0 = 1\npass = 0\npool 0 = " + thrown(next(z), 6));
        }
    }

    static void section2DieOfLessThan1Side() {
        sentence("Section 2", "1, if e is less than 1");
        dice("2", 2);
        dice("1", 1);
        dice("0", 1);
        dice("-1", 1);
        dice("-2", 1);
        dice("-1000", 1);
        dice("-1001", 1);
        dice(LEAST, 1);
    }

    static void section2DieOfMoreThan1000Sides() {
        sentence("Section 2", "and 1000, if it is greater than 1000");
        dice("999", 999);
        dice("1000", 1000);
        dice("1001", 1000);
        dice("2000", 1000);
        dice("9999", 1000);
        dice("(4096*4096*256 + 6)", 1000);
        dice(GREATEST, 1000);
    }

    static void section2DieOfADie() {
        sentence("Section 2", "die e is a throw: a die has a number z of 64 bits");
        RuleStack x = good("pool a 0 to 999 at 0; phase p:x; act x do set a die die 20 * 10 + die 6; end win 0;");
        run(x, "begin 2 99 = 0\nact 0 0 = 1\npass = 0");
        long one = next(99);
        long two = next(one);
        long three = next(two);
        run(x, "z = " + three + "\npool 0 = " + (thrown(two, thrown(one, 20)) * 10 + thrown(three, 6)));
    }

    // ---- statements

    static void section2SetAndAdd() {
        sentence("Section 2", "set makes a place the value of the expression, add adds it.");
        kept("set 0", 0);
        kept("set 1", 1);
        kept("add 0", 1);
        kept("add 1", 2);
        kept("add -1", 0);
        kept("set 2; add 2", 4);
        kept("set 2; set 3", 3);
    }

    static void section2If() {
        sentence("Section 2", "if as usual.");
        String text = "pool a 0 to 999 at 0; pool c -9 to 9 at 0; phase p:x, y, z; act x do set c them; "
            + "if c then set a a * 10 + 1; end if c then set a a * 10 + 2; else set a a * 10 + 3; end if c then else set a a * 10 + 4; end end "
            + "act y do if them = 0 then set a 1; if me then set a 2; else set a 3; end else set a 4; if players > 2 then set a 5; end end end "
            + "act z do if -1 then set a 7; else set a 8; end end win 0;";
        RuleStack x = good(text);
        run(x, """
            begin 2 0 = 0
            act 0 0 = 1
            pass = 0
            pool 0 = 34
            begin 2 0 = 0
            act 0 1 = 1
            pass = 0
            pool 0 = 12
            act 1 0 = 1
            pass = 0
            pool 0 = 3
            act 1 1 = 1
            pass = 0
            pool 0 = 4
            pass = 0
            act 1 0 = 1
            pass = 0
            pool 0 = 2
            act 2 0 = 1
            pass = 0
            pool 0 = 7
            begin 3 0 = 0
            act 1 1 = 1
            pass = 0
            pass = 0
            pool 0 = 5
            """);
    }

    static void section2All() {
        sentence("Section 2", "all does its statements once for each player, from the player behind the owner on, round to the owner, "
            + "who comes last: with this player as the target (behind the end the target is the one ahead again)");
        String text = "pool a 0 to 9 at 0; pool b 0 to 999 at 0; pool c 0 to 9 at 0; track t 0 to 9 at 0; phase p:x; "
            + "act x do all add a 1; set b b * 10 + them; add their t them + 1; if me <> %d then set c 9; end end "
            + "set c c + them; end win 0;";
        String[][] orders = {{"10", "1"}, {"120", "201", "12"}, {"1230", "2301", "3012", "123"}};
        for (int players = 2; players <= 4; players++) {
            for (int owner = 0; owner < players; owner++) {
                for (int target = 0; target < players; target++) {
                    RuleStack x = good(text.formatted(owner));
                    run(x, "begin " + players + " 0 = 0");
                    for (int i = 0; i < owner; i++) {
                        run(x, "pass = 0");
                    }
                    run(x, "act 0 " + target + " = 1");
                    for (int i = 1; i < players; i++) {
                        run(x, "pass = 0");
                    }
                    int order = Math.min(999, Integer.parseInt(orders[players - 2][owner]));
                    // A row of four players is cut at 999 ahead of its last player: 123 and then 999.
                    run(x, "all", "pool 0 = " + players + "\npool 1 = " + order + "\npool 2 = " + target);
                    for (int i = 0; i < players; i++) {
                        run(x, "track " + i + " 0 = " + (i + 1));
                    }
                }
            }
        }
    }

    static void section2AllInAll() {
        sentence("Section 2", "behind the end the target is the one ahead again");
        RuleStack x = good("pool a 0 to 999 at 0; pool n 0 to 999 at 0; pool s 0 to 999 at 0; phase p:x, y, z; "
            + "act x do all all add n 1; end add a them * 10 + 1; end set s them; end "
            + "act y do all all all all add n 1; end end end add s them; end end "
            + "act z do all end set s s * 10 + them; all all end set s s * 10 + them; end set s s * 10 + them; end win 0;");
        run(x, """
            begin 3 0 = 0
            act 0 1 = 1
            pass = 0
            pass = 0
            pool 0 = 33
            pool 1 = 9
            pool 2 = 1
            begin 4 0 = 0
            act 1 2 = 1
            pass = 0
            pass = 0
            pass = 0
            pool 1 = 256
            pool 2 = 6
            begin 2 0 = 0
            act 2 1 = 1
            pass = 0
            pool 2 = 999
            begin 2 0 = 0
            act 2 0 = 1
            pass = 0
            pool 2 = 100
            """);
    }

    static void section2CancelOfAnEmptyStack() {
        sentence("Section 2", "cancel takes the uppermost act or reply from the stack, if there is one; it is not done.");
        String text = "pool a 0 to 999 at 0; phase p:x, y; act x do add a 1; end act y do cancel; add a 10; end "
            + "reply none do add a 100; end reply one do cancel; end reply two do cancel; cancel; end "
            + "reply four do cancel; cancel; cancel; cancel; end rule r at p do cancel; end win 0;";
        // The stack is empty: in a rule, and in an act, which has been taken from it already.
        RuleStack x = good(text);
        run(x, """
            begin 2 0 = 0
            count 9 = 0
            act 1 0 = 1
            pass = 0
            count 9 = 0
            pool 0 = 10
            state = 0
            told 3 = -1
            """);
        // One below: it is taken, and not done.
        run(x, """
            act 0 0 = 1
            reply 1 0 = 2
            pass = 0
            count 9 = 0
            pool 0 = 10
            told 3 = -1
            """);
        // Two below: one of them stays.
        run(x, """
            act 0 0 = 1
            reply 0 0 = 2
            reply 1 0 = 3
            pass = 0
            count 9 = 1
            stack 0 0 = 0
            pool 0 = 10
            pass = 0
            pool 0 = 11
            """);
        // Two are taken, and more than there are.
        run(x, """
            act 0 0 = 1
            reply 0 0 = 2
            reply 2 0 = 3
            pass = 0
            count 9 = 0
            pool 0 = 11
            act 0 0 = 1
            reply 0 0 = 2
            reply 3 0 = 3
            pass = 0
            count 9 = 0
            pool 0 = 11
            state = 0
            """);
    }

    static void section2AgainOnlyOnce() {
        sentence("Section 2", "again gives the player whose turn it is one turn more behind this one "
            + "(at most one, however often it is done in a turn).");
        RuleStack x = good("phase p:x, y, z; act x do again; end act y do again; again; again; end act z do end win 0;");
        for (int act = 0; act <= 2; act++) {
            run(x, "again by act " + act, "begin 2 0 = 0\nact " + act + " 0 = 1\npass = 0\ntold 6 = " + (act < 2 ? 1 : 0));
            run(x, "again by act " + act, "pass = 0\ntold 1 = " + (act < 2 ? 0 : 1) + "\ntold 6 = 0");
            run(x, "again by act " + act, "pass = 0\ntold 1 = " + (act < 2 ? 1 : 0));
        }
        // Three acts of one turn give one turn more, too; one more again in that turn gives another.
        run(x, """
            begin 2 0 = 0
            act 0 0 = 1
            pass = 0
            act 0 0 = 1
            pass = 0
            act 1 0 = 1
            pass = 0
            told 6 = 1
            pass = 0
            told 1 = 0
            told 6 = 0
            act 0 0 = 1
            pass = 0
            pass = 0
            told 1 = 0
            pass = 0
            told 1 = 1
            """);
    }

    static void section2AgainOfAnotherPlayer() {
        sentence("Section 2", "again gives the player whose turn it is one turn more");
        RuleStack x = good("phase p:x; act x do end reply y do again; end win 0;");
        run(x, """
            begin 3 0 = 0
            act 0 1 = 1
            pass = 0
            reply 0 1 = 2
            stack 1 2 = 2
            pass = 0
            pass = 0
            told 6 = 1
            pass = 0
            pass = 0
            pass = 0
            told 1 = 0
            told 0 = 1
            """);
    }

    static void section2Skip() {
        sentence("Section 2", "skip: as soon as the stack is empty, the turn is over, as if all phases were.");
        RuleStack x = good("pool a 0 to 9 at 0; phase p:x, y; phase q:x; phase o:x; act x do skip; add a 1; end act y do end "
            + "reply z do skip; end win 0;");
        run(x, """
            begin 2 0 = 0
            act 0 0 = 1
            told 5 = 0
            pass = 0
            pool 0 = 1
            told 1 = 1
            told 2 = 0
            told 5 = 0
            act 1 0 = 1
            reply 0 0 = 2
            told 5 = 0
            pass = 0
            count 9 = 1
            told 5 = 1
            told 1 = 1
            told 2 = 0
            told 3 = 0
            pass = 0
            told 1 = 0
            told 0 = 2
            told 5 = 0
            act 1 0 = 1
            pass = 0
            told 1 = 0
            told 2 = 0
            pass = 0
            told 2 = 1
            act 0 0 = 1
            pass = 0
            told 1 = 1
            told 2 = 0
            """);
    }
}
