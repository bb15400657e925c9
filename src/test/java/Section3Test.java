/**
 * "3. The game": each sentence that names a boundary has a test of its own, with the last value that is allowed and
 * the first that isn't.
 */
public final class Section3Test extends Scripts {
    public static void main(String[] args) {
        runAll(Section3Test.class);
    }

    /** That many passes, each with this answer. */
    private static void passes(RuleStack x, int n, int state) {
        for (int i = 0; i < n; i++) {
            run(x, "pass = " + state);
        }
    }

    // ---- phases and rules

    static void section3Begins() {
        sentence("Section 3", "It begins in round 1 with the turn of player 0, in the first phase.");
        for (int players = 2; players <= 4; players++) {
            RuleStack x = good("phase p:x; phase q:y; act x do end act y do end win 0;");
            run(x, "begin " + players + " 5 = 0" + """

                told 0 = 1
                told 1 = 0
                told 2 = 0
                told 3 = -1
                told 4 = -1
                told 5 = 0
                told 6 = 0
                told 7 = 0
                count 8 = 0
                count 9 = 0
                z = 5
                canAct 0 0 = true
                canAct 1 0 = false
                """);
        }
    }

    static void section3PhasesFollow() {
        sentence("Section 3", "Phases follow one another as they stand in the program.");
        RuleStack x = good("phase z:x; phase a:x; phase m:x; phase b:x; phase y:x; phase c:x; act x do end win 0;");
        run(x, "begin 2 0 = 0");
        for (int move = 0; move < 12; move++) {
            run(x, "told 2 = " + move % 6 + "\ntold 1 = " + move / 6 + "\ntold 0 = 1\npass = 0");
        }
        run(x, "told 2 = 0\ntold 1 = 0\ntold 0 = 2");
        // One phase is the first and the last.
        RuleStack y = good("phase p:x; act x do end win 0;");
        run(y, "begin 2 0 = 0\ntold 2 = 0\npass = 0\ntold 2 = 0\ntold 1 = 1");
    }

    static void section3RulesInTheirOrder() {
        sentence("Section 3", "When a phase begins, all rules at it are gone through, in their order");
        RuleStack x = good("pool s 0 to 999 at 0; rule c at p do set s s * 10 + 1; end rule o at q do set s s * 10 + 9; end "
            + "rule a at p do set s s * 10 + 2; end phase p:x; phase q:x; act x do end rule b at p do set s s * 10 + 3; end "
            + "rule d at q do set s s * 10 + 8; end win 0;");
        run(x, "begin 2 0 = 0\npool 0 = 123\nact 0 0 = 1\npass = 0\npool 0 = 123");
        RuleStack y = good("pool s 0 to 999 at 0; phase p:x; phase q:x; act x do end rule o at q do set s s * 10 + 9; end "
            + "rule d at q do set s s * 10 + 8; end win 0;");
        run(y, "begin 2 0 = 0\npool 0 = 0\npass = 0\npool 0 = 98\npass = 0\npool 0 = 98");
    }

    static void section3OwnerOfRules() {
        sentence("Section 3", "the owner is the player whose turn it is, the target the player behind");
        for (int players = 2; players <= 4; players++) {
            RuleStack x = good("pool s 0 to 99 at 0; phase p:x; act x do end rule r at p when me = (them + players - 1) % players "
                + "do set s me * 10 + them; end win 0;");
            run(x, "begin " + players + " 0 = 0");
            for (int turn = 0; turn < players; turn++) {
                run(x, "pool 0 = " + (turn * 10 + (turn + 1) % players) + "\npass = 0");
            }
            run(x, "pool 0 = 1");
        }
    }

    static void section3WhenOfRules() {
        sentence("Section 3", "if a rule has no when, or this is true, its statements are done");
        RuleStack x = good("pool s 0 to 99 at 0; phase p:x; act x do end rule a at p when 0 do add s 1; end rule b at p do add s 2; end "
            + "rule c at p when s = 2 do add s 4; end rule d at p when s = 2 do add s 8; end rule e at p when -1 do add s 16; end "
            + "rule f at p when not 1 do add s 32; end win 0;");
        run(x, "begin 2 0 = 0\npool 0 = 22");
    }

    static void section3OnlyThenIsItLooked() {
        sentence("Section 3", "and then (only then) it is looked whether somebody has won (see below)");
        script("no rule", """
            text phase p:x; act x do end win 1;
            compile = 0
            begin 2 0 = 0
            pass = 0
            act 0 0 = 1
            pass = 1
            """);
        script("a rule that is not done", """
            text phase p:x; act x do end rule r at p when me do end win 1;
            compile = 0
            begin 2 0 = 0
            pass = 1
            told 4 = 1
            """);
        script("a rule that is done", """
            text phase p:x; act x do end rule r at p do end win 1;
            compile = 0
            begin 2 0 = 1
            told 4 = 0
            """);
        script("a rule at another phase", """
            text phase p:x; phase q:x; act x do end rule r at q do end win 1;
            compile = 0
            begin 2 0 = 0
            pass = 1
            told 4 = 0
            told 2 = 1
            """);
    }

    static void section3NothingMoreIsGoneThrough() {
        sentence("Section 3", "if so, nothing more is gone through");
        script("", """
            text pool a 0 to 9 at 0; phase p:x; act x do end rule r at p do add a 1; end rule s at p do add a 1; skip; end
            text rule t at p do add a 1; end win a = 2;
            compile = 0
            begin 2 0 = 1
            pool 0 = 2
            told 5 = 1
            told 1 = 0
            told 4 = 0
            text pool a 0 to 9 at 0; phase p:x; act x do end rule r at p do add a 1; end rule s at p do add a 1; end
            text rule t at p do add a 1; end win a = 4;
            compile = 0
            begin 2 0 = 0
            pool 0 = 3
            pass = 1
            pool 0 = 4
            told 1 = 1
            told 4 = 1
            """);
    }

    // ---- acts and replies

    static void section3ActOfThisPhase() {
        sentence("Section 3", "The player whose turn it is can do an act of this phase with any target");
        RuleStack x = good("phase p:x, y; phase q:y, z; act x do end act y do end act z do end act w do end win 0;");
        for (int target = 0; target < 4; target++) {
            run(x, "begin 4 0 = 0\nact 2 " + target + " = ISE\nact 3 " + target + " = ISE\nact 0 " + target + " = 1\nstack 0 3 = " + target);
            run(x, "begin 4 0 = 0\nact 1 " + target + " = 1\nstack 0 1 = 1");
            run(x, "begin 4 0 = 0\npass = 0\nact 0 " + target + " = ISE\nact 1 " + target + " = 1");
            run(x, "begin 4 0 = 0\npass = 0\nact 3 " + target + " = ISE\nact 2 " + target + " = 1\nstack 0 2 = 0");
        }
        run(x, "begin 4 0 = 0\nact 0 -1 = IOOBE\nact 0 4 = IOOBE");
        // The twelfth act in the sixth phase.
        RuleStack y = good(items("act a%c do end ", 12) + items("phase p%c:aa;", 5) + "phase pf:al; win 0;");
        run(y, "begin 2 0 = 0\nact 11 0 = ISE\nact 0 0 = 1\npass = 0");
        passes(y, 5, 0);
        run(y, "told 2 = 5\nact 10 0 = ISE\nact 0 0 = ISE\nact 11 1 = 1\nact 12 0 = IOOBE");
    }

    static void section3ActIfTheStackIsEmpty() {
        sentence("Section 3", "if the stack is empty, and it has no when, or this is true (the owner is who does it)");
        script("", """
            text phase p:x, y, z; act x do end act y when me = 1 and them = 2 do end act z when 0 do end reply r do end win 0;
            compile = 0
            begin 3 0 = 0
            act 1 2 = ISE
            act 2 0 = ISE
            act 0 0 = 1
            act 0 0 = ISE
            act 0 1 = ISE
            canAct 0 0 = false
            reply 0 0 = 2
            act 0 0 = ISE
            pass = 0
            pass = 0
            count 9 = 1
            act 0 0 = ISE
            pass = 0
            pass = 0
            count 9 = 0
            act 0 0 = 1
            pass = 0
            pass = 0
            pass = 0
            act 1 0 = ISE
            act 1 1 = ISE
            act 1 2 = 1
            """);
    }

    static void section3WhenOfTheFirstItem() {
        sentence("Section 3", "and it has no when, or this is true");
        // The act, the reply and the rule that stand ahead of all others have a when like any other.
        RuleStack x = good("act x when them do end phase p:x, y; act y do end win 0;");
        run(x, "begin 2 0 = 0\nact 0 0 = ISE\ncanAct 0 0 = false\nmoves = 4\nact 0 1 = 1");
        RuleStack y = good("reply r when them do end phase p:x; act x do end win 0;");
        run(y, "begin 2 0 = 0\nact 0 0 = 1\nreply 0 0 = ISE\nmoves = 2\nreply 0 1 = 2");
        RuleStack z = good("rule r at p when me do end phase p:x; act x do end win 1;");
        run(z, "begin 2 0 = 0\npass = 1");
        RuleStack w = good("win me; phase p:x; act x do end");
        run(w, "begin 2 0 = 0\nact 0 0 = 1\npass = 1\ntold 4 = 1");
    }

    static void section3ThePlayerBehindIsAsked() {
        sentence("Section 3", "It comes onto the stack; then the player behind is asked.");
        for (int players = 2; players <= 4; players++) {
            RuleStack x = good("phase p:x; act x do end win 0;");
            run(x, "begin " + players + " 0 = 0\ntold 3 = -1\nact 0 0 = 1\ntold 3 = 1\ncount 9 = 1\ntold 7 = 0");
            run(x, "begin " + players + " 0 = 0");
            passes(x, players - 1, 0);
            run(x, "told 1 = " + (players - 1) + "\nact 0 1 = 1\ntold 3 = 0\nstack 0 2 = " + (players - 1) + "\nstack 0 3 = 1");
        }
    }

    static void section3Reply() {
        sentence("Section 3", "Who is asked can reply, with any target, if the reply has no when, or this is true");
        RuleStack x = good("phase p:x; act x do end reply a do end reply b when me = 2 and them = 1 do end reply c when 0 do end "
            + "reply d when depth > 1 do end win 0;");
        for (int target = 0; target < 3; target++) {
            run(x, "begin 3 0 = 0\nreply 0 " + target + " = ISE\nact 0 0 = 1\nreply 0 " + target + " = 2\nstack 1 2 = 1\nstack 1 3 = " + target);
        }
        run(x, """
            begin 3 0 = 0
            act 0 0 = 1
            reply 0 3 = IOOBE
            reply 0 -1 = IOOBE
            reply 1 1 = ISE
            reply 2 0 = ISE
            reply 3 0 = ISE
            pass = 0
            reply 1 0 = ISE
            reply 1 2 = ISE
            reply 1 1 = 2
            stack 1 2 = 2
            told 3 = 0
            reply 3 0 = 3
            told 3 = 1
            """);
    }

    static void section3WhoIsAskedBehindAReplyAndAPass() {
        sentence("Section 3", "it comes onto the stack, and the player behind is asked. Or who is asked passes: then the player behind is asked");
        for (int players = 3; players <= 4; players++) {
            RuleStack x = good("phase p:x; act x do end reply r do end win 0;");
            run(x, "begin " + players + " 0 = 0\nact 0 0 = 1");
            int asked = 1;
            for (int height = 2; height <= 10; height++) {
                run(x, "told 3 = " + asked + "\npass = 0");
                asked = (asked + 1) % players;
                run(x, "told 3 = " + asked + "\nreply 0 0 = " + height + "\nstack " + (height - 1) + " 2 = " + asked);
                asked = (asked + 1) % players;
            }
            run(x, "told 3 = " + asked);
        }
    }

    static void section3PassesOfAllButTheOwner() {
        sentence("Section 3", "if all but the owner of the uppermost act or reply have passed one after the other since it came there "
            + "or became the uppermost one, it is taken from the stack, and done");
        for (int players = 2; players <= 4; players++) {
            RuleStack x = good("pool a 0 to 99 at 0; phase p:x; act x do add a 1; end reply y do add a 10; end win 0;");
            run(x, "begin " + players + " 0 = 0\nact 0 0 = 1");
            for (int passed = 0; passed < players - 1; passed++) {
                run(x, players + " players", "told 7 = " + passed + "\ntold 3 = " + (1 + passed) + "\npool 0 = 0\ncount 9 = 1\npass = 0");
            }
            run(x, "pool 0 = 1\ncount 9 = 0\ntold 7 = 0\ntold 3 = -1");
            // A reply in between: the passes ahead of it do not count, neither for it nor for what lies below.
            run(x, "act 0 0 = 1");
            passes(x, players - 2, 0);
            run(x, "told 7 = " + (players - 2) + "\nreply 0 0 = 2\ntold 7 = 0\ntold 3 = 0");
            for (int passed = 0; passed < players - 1; passed++) {
                run(x, "told 7 = " + passed + "\npool 0 = 1\npass = 0");
            }
            run(x, "pool 0 = 11\ncount 9 = 1\ntold 7 = 0\ntold 3 = 1");
            for (int passed = 0; passed < players - 1; passed++) {
                run(x, "told 7 = " + passed + "\npool 0 = 11\npass = 0");
            }
            run(x, "pool 0 = 12\ncount 9 = 0");
        }
    }

    static void section3CancelTakesWhatIsUppermostThen() {
        sentence("Section 3", "(what cancel takes away is what is uppermost then)");
        script("", """
            text pool a 0 to 99 at 0; pool d 0 to 99 at 0; phase p:x; act x do add a 1; set d depth; end
            text reply y do set d depth; cancel; end reply z do add a 10; set d depth; end win 0;
            compile = 0
            begin 2 0 = 0
            act 0 0 = 1
            reply 1 0 = 2
            reply 0 0 = 3
            pass = 0
            pool 1 = 2
            count 9 = 1
            stack 0 0 = 0
            pass = 0
            pool 0 = 1
            pool 1 = 0
            count 9 = 0
            """);
    }

    static void section3WhoIsAskedBehindWhatWasDone() {
        sentence("Section 3", "if not, and the stack is not empty, the player behind the owner of the uppermost one is asked.");
        script("", """
            text phase p:x; act x do end reply y do end reply z do cancel; end win 0;
            compile = 0
            begin 4 0 = 0
            pass = 0
            pass = 0
            pass = 0
            act 0 0 = 1
            told 3 = 0
            reply 0 0 = 2
            told 3 = 1
            pass = 0
            reply 1 0 = 3
            told 3 = 3
            reply 0 0 = 4
            told 3 = 0
            pass = 0
            pass = 0
            pass = 0
            count 9 = 3
            told 3 = 3
            told 7 = 0
            pass = 0
            pass = 0
            pass = 0
            count 9 = 1
            told 3 = 0
            told 7 = 0
            pass = 0
            pass = 0
            pass = 0
            count 9 = 0
            told 3 = -1
            told 1 = 3
            """);
    }

    static void section3StackOf10() {
        sentence("Section 3", "The stack has room for 10; no act or reply can come onto a full one.");
        RuleStack x = good("phase p:x; act x do end reply y do end reply z do cancel; end win 0;");
        run(x, "begin 2 0 = 0\ncount 9 = 0\nreply 0 0 = ISE\nact 0 0 = 1");
        for (int height = 2; height <= 10; height++) {
            run(x, "canReply 0 0 = true\nmoves = 5\nreply " + (height == 10 ? 1 : 0) + " 0 = " + height);
        }
        run(x, """
            count 9 = 10
            canReply 0 0 = false
            canReply 1 1 = false
            canAct 0 0 = false
            moves = 1
            reply 0 0 = ISE
            reply 1 1 = ISE
            act 0 0 = ISE
            count 8 = 10
            stack 9 0 = 1
            stack 10 0 = IOOBE
            pass = 0
            count 9 = 8
            canReply 0 0 = true
            moves = 5
            reply 0 1 = 9
            reply 0 1 = 10
            reply 0 1 = ISE
            pass = 0
            count 9 = 9
            reply 0 1 = 10
            """);
        passes(x, 10, 0);
        run(x, "count 9 = 0\nact 0 0 = 1");
    }

    // ---- phases, turns, rounds

    static void section3EmptyStackPass() {
        sentence("Section 3", "If the stack is empty, the player whose turn it is can pass, too: the phase is over.");
        script("", """
            text phase p:x; phase q:x; act x do end win 0;
            compile = 0
            begin 2 0 = 0
            act 0 0 = 1
            pass = 0
            told 2 = 0
            told 1 = 0
            pass = 0
            told 2 = 1
            told 1 = 0
            move 2 3 = 0
            act 0 0 = 1
            pass = 0
            told 2 = 1
            pass = 0
            told 2 = 0
            told 1 = 1
            """);
    }

    static void section3TheTurnIsOver() {
        sentence("Section 3", "When the phase that is over was the last one, or skip was done in this turn, the turn is over: "
            + "then the same player has a turn, if again was done, and otherwise the player behind");
        script("", """
            text phase p:x, y; phase q:x, y; phase r:x; act x do again; end act y do skip; end win 0;
            compile = 0
            begin 2 0 = 0
            pass = 0
            pass = 0
            told 1 = 0
            told 2 = 2
            pass = 0
            told 1 = 1
            told 2 = 0
            act 0 0 = 1
            pass = 0
            pass = 0
            pass = 0
            told 1 = 1
            told 2 = 2
            pass = 0
            told 1 = 1
            told 2 = 0
            pass = 0
            act 1 0 = 1
            pass = 0
            told 1 = 0
            told 2 = 0
            act 0 0 = 1
            pass = 0
            act 1 0 = 1
            pass = 0
            told 1 = 0
            told 2 = 0
            told 5 = 0
            told 6 = 0
            """);
    }

    static void section3NewRound() {
        sentence("Section 3", "when player 0 has a turn anew by this (not by again), the round is 1 greater");
        for (int players = 2; players <= 4; players++) {
            RuleStack x = good("phase p:x; act x do again; end win 0;");
            run(x, "begin " + players + " 0 = 0");
            for (int turn = 0; turn < 3 * players; turn++) {
                run(x, players + " players", "told 0 = " + (1 + turn / players) + "\ntold 1 = " + turn % players + "\npass = 0");
            }
            // Again of player 0, and of the last player, makes no round.
            run(x, "told 0 = 4\nact 0 0 = 1");
            passes(x, players - 1, 0);
            run(x, "pass = 0\ntold 0 = 4\ntold 1 = 0\npass = 0\ntold 0 = 4\ntold 1 = 1");
            passes(x, players - 2, 0);
            run(x, "told 1 = " + (players - 1) + "\nact 0 0 = 1");
            passes(x, players - 1, 0);
            run(x, "pass = 0\ntold 0 = 4\ntold 1 = " + (players - 1) + "\npass = 0\ntold 0 = 5\ntold 1 = 0");
        }
    }

    static void section3Round51() {
        sentence("Section 3", "if it would be 51, the game is over, and nobody has won.");
        for (int players = 2; players <= 4; players++) {
            RuleStack x = good("pool r 0 to 99 at 0; phase p:x; act x do end rule t at p do set r round; end win 0;");
            run(x, "begin " + players + " 0 = 0");
            passes(x, 49 * players - 1, 0);
            run(x, "told 0 = 49\npass = 0\ntold 0 = 50\ntold 1 = 0\npool 0 = 50");
            passes(x, players - 1, 0);
            run(x, "told 0 = 50\ntold 1 = " + (players - 1) + "\nstate = 0\nact 0 0 = 1");
            passes(x, players - 1, 0);
            run(x, "state = 0\npass = 2\nstate = 2" + """

                told 0 = 50
                told 2 = 0
                told 3 = -1
                told 4 = -1
                told 7 = 0
                pool 0 = 50
                moves = 0
                pass = ISE
                act 0 0 = ISE
                """ + "told 1 = " + (players - 1) + "\ncount 8 = " + (51 * players));
        }
    }

    static void section3AgainInRound50() {
        sentence("Section 3", "(not by again)");
        RuleStack x = good("phase p:x; act x do again; end win 0;");
        run(x, "begin 2 0 = 0");
        passes(x, 99, 0);
        run(x, """
            told 0 = 50
            told 1 = 1
            act 0 0 = 1
            pass = 0
            pass = 0
            told 0 = 50
            told 1 = 1
            state = 0
            pass = 2
            told 0 = 50
            told 1 = 1
            """);
        run(x, "begin 2 0 = 0");
        passes(x, 98, 0);
        run(x, """
            told 0 = 50
            told 1 = 0
            act 0 0 = 1
            pass = 0
            pass = 0
            told 0 = 50
            told 1 = 0
            pass = 0
            told 1 = 1
            pass = 2
            """);
    }

    static void section3SkipBehindWhatWasDone() {
        sentence("Section 3", "(skip is looked at as soon as the stack is empty: behind what was done, and behind the rules at the "
            + "beginning of a phase.");
        script("behind what was done", """
            text phase p:x, y; phase q:x; act x do skip; end act y do end reply z do skip; end win 0;
            compile = 0
            begin 2 0 = 0
            act 1 0 = 1
            reply 0 0 = 2
            pass = 0
            told 5 = 1
            told 1 = 0
            reply 0 0 = 2
            pass = 0
            pass = 0
            told 1 = 1
            told 2 = 0
            told 5 = 0
            """);
        script("behind the rules", """
            text pool a 0 to 99 at 0; phase p:x; phase q:x; phase o:x; act x do end rule r at q when me = 0 do skip; end
            text rule s at q do add a 1; end rule t at o do add a 10; end rule u at p do add a 20; end win 0;
            compile = 0
            begin 2 0 = 0
            pool 0 = 20
            pass = 0
            pool 0 = 41
            told 1 = 1
            told 2 = 0
            pass = 0
            pool 0 = 42
            told 2 = 1
            told 1 = 1
            pass = 0
            pool 0 = 52
            told 2 = 2
            """);
        script("behind the rules of the first phase, at the beginning", """
            text pool a 0 to 99 at 0; phase p:x; phase q:x; act x do end rule r at p when me = 0 do skip; end
            text rule s at p do add a 1; end win 0;
            compile = 0
            begin 2 0 = 0
            told 1 = 1
            told 0 = 1
            told 2 = 0
            pool 0 = 2
            pass = 0
            pass = 0
            told 1 = 1
            told 0 = 2
            pool 0 = 4
            """);
    }

    static void section3SkipAndAgainAreForgotten() {
        sentence("Section 3", "A new turn begins with its first phase; skip and again are forgotten then.)");
        script("", """
            text phase p:y; phase q:x, y; act x do skip; again; end act y do again; end win 0;
            compile = 0
            begin 2 0 = 0
            pass = 0
            act 0 0 = 1
            pass = 0
            told 1 = 0
            told 2 = 0
            told 5 = 0
            told 6 = 0
            pass = 0
            told 2 = 1
            pass = 0
            told 1 = 1
            told 2 = 0
            act 1 0 = 1
            pass = 0
            told 6 = 1
            pass = 0
            told 2 = 1
            told 6 = 1
            pass = 0
            told 1 = 1
            told 2 = 0
            told 6 = 0
            """);
    }

    // ---- 100 turns

    static void section3TurnsBehindOneMove() {
        sentence("Section 3", "If more than 100 turns would begin behind one move");
        // The act's turn is over at once; b counts the turns that begin behind it.
        for (int skipped = 98; skipped <= 101; skipped++) {
            RuleStack x = good("pool on 0 to 1 at 0; pool b 0 to 999 at 0; phase p:x; act x do set on 1; skip; end "
                + "rule r at p when on do add b 1; if b <= " + skipped + " then skip; again; end end win 0;");
            boolean over = skipped >= 100;
            int begun = over ? 100 : skipped + 1;
            run(x, skipped + " turns that are over at once", "begin 2 0 = 0\nact 0 0 = 1\npool 1 = 0\npass = " + (over ? 2 : 0)
                + "\npool 1 = " + begun + "\ntold 0 = 1\ntold 1 = 1\ntold 5 = " + (over ? 1 : 0) + "\ntold 6 = " + (over ? 1 : 0)
                + "\ntold 3 = -1\ntold 4 = -1\ncount 8 = 2");
            if (over) {
                run(x, "pass = ISE\nmoves = 0\nback 1 = 0\npool 1 = 0\npass = 2\npool 1 = 100");
            } else {
                run(x, "moves = 3\npass = 0");
            }
        }
    }

    static void section3TurnsBehindAPass() {
        sentence("Section 3", "more than 100 turns would begin behind one move");
        for (int skipped = 99; skipped <= 100; skipped++) {
            RuleStack x = good("pool b 0 to 999 at 0; phase p:x; phase q:x; act x do end "
                + "rule r at p when b do add b 1; if b <= " + (skipped + 1) + " then skip; end end rule s at q when not b do set b 1; end win 0;");
            boolean over = skipped == 100;
            run(x, "begin 4 0 = 0\npass = 0\npool 0 = 1\npass = " + (over ? 2 : 0) + "\npool 0 = 101\ntold 1 = 0\ntold 0 = 26\ntold 2 = 0");
            run(x, "told 5 = " + (over ? 1 : 0));
            // The turns behind another move are counted anew.
            RuleStack y = good("pool b 0 to 99 at 0; phase p:x; act x do set b 0; end rule r at p do add b 1; if b < 99 then skip; again; end end win 0;");
            run(y, "begin 2 0 = 0\npool 0 = 99\nact 0 0 = 1\npass = 0\npool 0 = 0\npass = 0\npool 0 = 99\nact 0 0 = 1\npass = 0\npass = 0\npool 0 = 99\nstate = 0");
        }
    }

    static void section3TurnsAtTheBeginning() {
        sentence("Section 3", "(or at the beginning of the game, behind the first one), the game is over, too, and nobody has won.");
        for (int skipped = 98; skipped <= 102; skipped++) {
            RuleStack x = good("pool b 0 to 999 at 0; phase p:x; act x do end rule r at p do add b 1; if b <= " + skipped
                + " then skip; again; end end win 0;");
            boolean over = skipped > 100;
            int begun = over ? 101 : skipped + 1;
            run(x, skipped + " turns that are over at once", "begin 2 0 = " + (over ? 2 : 0) + "\npool 0 = " + begun
                + "\nstate = " + (over ? 2 : 0) + "\ntold 0 = 1\ntold 1 = 0\ntold 5 = " + (over ? 1 : 0) + "\ntold 6 = " + (over ? 1 : 0)
                + "\ntold 4 = -1\ncount 8 = 0\nback 0 = " + (over ? 2 : 0));
        }
        // Without again the round goes on with them; of two players it would be 51 ahead of the 101st turn.
        for (int players = 2; players <= 4; players++) {
            RuleStack x = good("pool b 0 to 999 at 0; phase p:x; act x do end rule r at p do add b 1; skip; end win 0;");
            int turns = players == 2 ? 100 : 101;
            run(x, players + " players", "begin " + players + " 0 = 2\npool 0 = " + turns + "\ntold 0 = " + (1 + (turns - 1) / players)
                + "\ntold 1 = " + (turns - 1) % players + "\ntold 5 = 1\ntold 6 = 0\ntold 3 = -1");
        }
        RuleStack y = good("pool b 0 to 999 at 0; phase p:x; act x do end rule r at p do add b 1; if b < 100 then skip; end end win 0;");
        run(y, "begin 2 0 = 0\npool 0 = 100\ntold 0 = 50\ntold 1 = 1\npass = 2\ntold 0 = 50");
    }

    static void section3WonInTheHundredthTurn() {
        sentence("Section 3", "the first one for whom it is true has won, and the game is over (at once: nothing else is done then).");
        for (int last = 99; last <= 101; last++) {
            RuleStack x = good("pool on 0 to 1 at 0; pool b 0 to 999 at 0; phase p:x; act x do set on 1; skip; end "
                + "rule r at p when on do add b 1; skip; again; end rule s at p when on do add on 0; end win b >= " + last + ";");
            run(x, "begin 2 0 = 0\nact 0 0 = 1\npass = " + (last == 101 ? 2 : 1) + "\npool 1 = " + Math.min(last, 100)
                + "\ntold 4 = " + (last == 101 ? -1 : 1));
        }
    }

    // ---- winning

    static void section3WhoHasWon() {
        sentence("Section 3", "player by player, from the one whose turn it is on, it is looked whether the expression behind win is true, "
            + "with this player as the owner, and the player behind as the target");
        for (int turn = 0; turn < 4; turn++) {
            for (int first = 0; first < 4; first++) {
                for (int second = 0; second < 4; second++) {
                    RuleStack x = good("phase p:x; act x do end win (me = " + first + " or me = " + second + ") and them = (me + 1) % players;");
                    run(x, "begin 4 0 = 0");
                    passes(x, turn, 0);
                    run(x, "act 0 0 = 1\ntold 4 = -1");
                    passes(x, 2, 0);
                    int winner = (first - turn + 4) % 4 <= (second - turn + 4) % 4 ? first : second;
                    run(x, "state = 0\npass = 1\ntold 4 = " + winner + "\ntold 1 = " + turn);
                }
            }
        }
    }

    static void section3WonByANumberOtherThan0() {
        sentence("Section 3", "it is looked whether the expression behind win is true");
        String[] wins = {"0", "-1", "2", "4096*4096*256", "1 - 1", "not 1"};
        for (int i = 0; i < wins.length; i++) {
            RuleStack x = good("phase p:x; act x do end win " + wins[i] + ";");
            run(x, wins[i], "begin 2 0 = 0\nact 0 0 = 1\npass = " + (i == 0 || i > 3 ? 0 : 1));
        }
    }

    static void section3NothingElseIsDone() {
        sentence("Section 3", "(at once: nothing else is done then)");
        script("the stack stays, nobody is asked", """
            text pool a 0 to 9 at 0; phase p:x; act x do set a 5; end reply y do set a 1; skip; end win a = 1;
            compile = 0
            begin 3 0 = 0
            act 0 0 = 1
            reply 0 2 = 2
            pass = 0
            told 3 = 0
            pass = 1
            count 9 = 1
            stack 0 1 = 0
            pool 0 = 1
            told 3 = -1
            told 7 = 0
            told 5 = 1
            told 1 = 0
            told 4 = 0
            pass = ISE
            reply 0 0 = ISE
            act 0 0 = ISE
            """);
        script("no turn begins", """
            text pool a 0 to 9 at 0; phase p:x; act x do set a 1; skip; end rule r at p when a do set a 2; end win a = 1;
            compile = 0
            begin 2 0 = 0
            act 0 0 = 1
            pass = 1
            pool 0 = 1
            told 1 = 0
            told 5 = 1
            """);
    }

    static void section3LookedOnlyBehindWhatWasDone() {
        sentence("Section 3", "Then it is looked whether somebody has won");
        script("", """
            text phase p:x; phase q:x; act x do end reply y do end win depth = 1 or depth = 2;
            compile = 0
            begin 2 0 = 0
            pass = 0
            act 0 0 = 1
            state = 0
            reply 0 0 = 2
            reply 0 0 = 3
            state = 0
            reply 0 0 = 4
            pass = 0
            state = 0
            pass = 1
            count 9 = 2
            """);
    }

    // ---- 250 moves

    /** A game of two players with 248 moves behind it, the stack empty, and player 0 in the only phase. */
    private static RuleStack after248(String acts) {
        RuleStack x = good("pool a 0 to 999 at 0; phase p:x, y, z; " + acts);
        run(x, "begin 2 0 = 0");
        for (int i = 0; i < 124; i++) {
            run(x, "act 0 0 = 1\npass = 0");
        }
        run(x, "count 8 = 248\nstate = 0\npool 0 = 124");
        return x;
    }

    private static final String BEHIND_250 = """
        count 8 = 250
        told 3 = -1
        told 7 = 0
        moves = 0
        act 0 0 = ISE
        reply 0 0 = ISE
        pass = ISE
        canAct 0 0 = false
        canReply 0 0 = false
        move 249 3 = 0
        move 250 0 = IOOBE
        back 251 = IAE
        """;

    static void section3The250thMoveAPass() {
        sentence("Section 3", "Moves are recorded, at most 250; when the 250th one is done, with all that follows from it, "
            + "and the game goes on then, it is over, and nobody has won.");
        RuleStack x = after248("act x do add a 1; end act y do end act z do end reply q do end rule r at p do add a 0; end win a = 888;");
        run(x, "pass = 0\ncount 8 = 249\nstate = 0\ntold 1 = 1\nmoves = 7\npass = 2\nstate = 2\ntold 4 = -1\ntold 1 = 0\ntold 0 = 2\npool 0 = 124");
        run(x, BEHIND_250.replace("move 249 3 = 0", "move 249 3 = 1"));
        run(x, "back 250 = 2\nback 249 = 0\ncount 8 = 249\ntold 1 = 1\nact 0 0 = 1\nstate = 2\ncount 8 = 250");
    }

    static void section3The250thMoveAnAct() {
        sentence("Section 3", "A move is an act, a reply, or a pass.");
        RuleStack x = after248("act x do add a 1; end act y do end act z do end reply q do end win a = 888;");
        run(x, "pass = 0\nact 0 1 = 1\nstate = 2\ncount 9 = 1\npool 0 = 124\nstack 0 2 = 1\nstack 0 3 = 1");
        run(x, BEHIND_250.replace("move 249 3 = 0", "move 249 0 = 0\nmove 249 3 = 1"));
        RuleStack y = after248("act x do add a 1; end act y do end act z do end reply q do end win a = 888;");
        run(y, "act 0 1 = 1\nstate = 0\ntold 3 = 1\nreply 0 1 = 2\nstate = 2\ncount 9 = 2\nstack 1 0 = 1\npool 0 = 124");
        run(y, BEHIND_250.replace("move 249 3 = 0", "move 249 0 = 1\nmove 249 3 = 1"));
    }

    static void section3TheGameWonByThe250thMove() {
        sentence("Section 3", "with all that follows from it, and the game goes on then");
        RuleStack x = after248("act x do add a 1; end act y do set a 888; end act z do set a 887; end reply q do end win a = 888;");
        run(x, "act 1 0 = 1\nstate = 0\ncount 8 = 249\npass = 1\nstate = 1\ntold 4 = 0\npool 0 = 888");
        run(x, BEHIND_250.replace("move 249 3 = 0", "move 249 3 = 1"));
        run(x, "back 250 = 1\ntold 4 = 0");
        RuleStack y = after248("act x do add a 1; end act y do set a 888; end act z do set a 887; skip; end reply q do end win a = 888;");
        run(y, "act 2 0 = 1\npass = 2\nstate = 2\ntold 4 = -1\npool 0 = 887\ncount 9 = 0\ntold 1 = 1\ntold 5 = 0");
        run(y, BEHIND_250.replace("move 249 3 = 0", "move 249 3 = 1"));
    }

    // ---- when it is over

    static void section3WhatStaysWhenItIsOver() {
        sentence("Section 3", "When a game is over, the stack, the values, round, player, phase, skip and again stay as they are "
            + "(where a turn is not begun, because the round would be 51 or it would be the 101st one, they are those of the turn ahead); "
            + "nobody is asked then.");
        RuleStack x = good("pool a 0 to 99 at 0; track t 0 to 9 at 1; phase p:x; phase q:y; act x do skip; add my t 1; end "
            + "act y do skip; set a 7; end win 0;");
        run(x, "begin 2 0 = 0");
        for (int turn = 0; turn < 99; turn++) {
            run(x, "act 0 0 = 1\npass = 0");
        }
        run(x, """
            told 0 = 50
            told 1 = 1
            pass = 0
            told 2 = 1
            act 0 0 = ISE
            act 1 0 = 1
            told 3 = 0
            pass = 2
            told 0 = 50
            told 1 = 1
            told 2 = 1
            told 3 = -1
            told 4 = -1
            told 5 = 1
            told 6 = 0
            told 7 = 0
            pool 0 = 7
            track 0 0 = 9
            count 9 = 0
            count 7 = 2
            count 8 = 201
            """);
    }

    static void section3WhatStaysWhenSomebodyHasWon() {
        sentence("Section 3", "stay as they are");
        script("", """
            text pool a 0 to 99 at 0; phase p:x; phase q:x; act x do end reply y do add a 5; skip; again; end win a > 5;
            compile = 0
            begin 3 0 = 0
            pass = 0
            pass = 0
            pass = 0
            told 2 = 1
            act 0 2 = 1
            reply 0 0 = 2
            reply 0 1 = 3
            pass = 0
            pass = 0
            state = 0
            pool 0 = 5
            told 5 = 1
            told 6 = 1
            pass = 0
            pass = 1
            told 0 = 1
            told 1 = 1
            told 2 = 1
            told 3 = -1
            told 4 = 1
            told 5 = 1
            told 6 = 1
            told 7 = 0
            count 9 = 1
            stack 0 0 = 0
            stack 0 2 = 1
            stack 0 3 = 2
            pool 0 = 10
            """);
    }
}
