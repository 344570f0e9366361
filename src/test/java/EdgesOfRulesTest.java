/** Promises 6, 7 and 18: each sentence that names a boundary case of rule, unrule and of rules that apply. */
public final class EdgesOfRulesTest {
    private static final int MIN = Integer.MIN_VALUE;
    private static final int MAX = Integer.MAX_VALUE;

    public static void main(String[] args) {
        Due due = new Due();
        roomFor16(due);
        verbs(due);
        subjects(due);
        subjectsOfGo(due);
        conditionNumbers(due);
        conditionCounters(due);
        conditionPlaces(due);
        conditionTraits(due);
        effectNumbers(due);
        effectMoves(due);
        effectCounters(due);
        effectRooms(due);
        unruleOfNone(due);
        unruleTheLast(due);
        subjectApplies(due);
        inOrder(due);
        behindOneThatStops(due);
        effectsStay(due);
        oneThatApplied(due);
        due.end();
    }

    private static void good(Due due, String what, int verb, int subject, int condition, int effect) {
        StoryWorld world = new StoryWorld();
        due.is(what, 1, world.rule(verb, subject, condition, effect));
        due.is("it is there", 0, world.unrule());
    }

    private static void bad(Due due, String what, int verb, int subject, int condition, int effect) {
        StoryWorld world = new StoryWorld();
        due.is(what, StoryWorld.BAD, world.rule(verb, subject, condition, effect));
        due.is("none is there", StoryWorld.BAD, world.unrule());
    }

    private static void goodCondition(Due due, String what, int condition) {
        good(due, what, Story.TAKE, 0, condition, 0);
    }

    private static void badCondition(Due due, String what, int condition) {
        bad(due, what, Story.TAKE, 0, condition, 0);
    }

    private static void goodEffect(Due due, String what, int effect) {
        good(due, what, Story.TAKE, 0, 0, effect);
        good(due, what + " that stops", Story.TAKE, 0, 0, effect + 1024);
    }

    private static void badEffect(Due due, String what, int effect) {
        bad(due, what, Story.TAKE, 0, 0, effect);
        bad(due, what + " that stops", Story.TAKE, 0, 0, effect + 1024);
    }

    private static void roomFor16(Due due) {
        due.sentence("rule: Else answers the number of rules");
        StoryWorld world = new StoryWorld();
        for (int i = 1; i <= 16; i++) {
            due.is("rule " + i, i, world.rule(Story.DROP, -1, 0, Story.say(i)));
        }
        due.sentence("rule: 16 are there: NO_ROOM");
        due.is("rule 17", StoryWorld.NO_ROOM, world.rule(Story.DROP, -1, 0, Story.say(99)));
        world.command(Story.DROP, 0, 0);
        due.is("said()", 16, world.said());
        due.is("saying(0)", 1, world.saying(0));
        due.is("saying(15)", 16, world.saying(15));
        due.sentence("rule: Tested in this order: NO_ROOM; BAD");
        due.is("a wrong verb", StoryWorld.NO_ROOM, world.rule(6, 0, 0, 0));
        due.is("a wrong subject", StoryWorld.NO_ROOM, world.rule(0, 4, 0, 0));
        due.is("a wrong condition", StoryWorld.NO_ROOM, world.rule(0, 0, -1, 0));
        due.is("a wrong effect", StoryWorld.NO_ROOM, world.rule(0, 0, 0, 2048));
        world.unrule();
        due.is("a wrong verb where 15 are there", StoryWorld.BAD, world.rule(6, 0, 0, 0));
        due.is("a good one", 16, world.rule(5, 0, 0, 0));
    }

    private static void verbs(Due due) {
        due.sentence("rule: verb outside 0..5: BAD");
        int[] outside = {-1, 6, 7, MIN, MAX};
        for (int verb : outside) {
            bad(due, "rule(" + verb + ", 0, 0, 0)", verb, 0, 0, 0);
            bad(due, "rule(" + verb + ", -1, 0, 0)", verb, -1, 0, 0);
        }
        good(due, "rule(0, 0, 0, 0)", 0, 0, 0, 0);
        good(due, "rule(5, 0, 0, 0)", 5, 0, 0, 0);
    }

    private static void subjects(Due due) {
        due.sentence("rule: subject outside -1..7: BAD");
        int[] outside = {-2, 8, 9, MIN, MAX};
        for (int verb = 1; verb <= 5; verb++) {
            for (int subject : outside) {
                bad(due, "rule(" + verb + ", " + subject + ", 0, 0)", verb, subject, 0, 0);
            }
            good(due, "rule(" + verb + ", -1, 0, 0)", verb, -1, 0, 0);
            good(due, "rule(" + verb + ", 0, 0, 0)", verb, 0, 0, 0);
            good(due, "rule(" + verb + ", 7, 0, 0)", verb, 7, 0, 0);
        }
    }

    private static void subjectsOfGo(Due due) {
        due.sentence("rule: subject outside -1..3 for GO: BAD");
        int[] outside = {-2, 4, 5, 7, 8, MIN, MAX};
        for (int subject : outside) {
            bad(due, "rule(0, " + subject + ", 0, 0)", 0, subject, 0, 0);
        }
        good(due, "rule(0, -1, 0, 0)", 0, -1, 0, 0);
        good(due, "rule(0, 0, 0, 0)", 0, 0, 0, 0);
        good(due, "rule(0, 3, 0, 0)", 0, 3, 0, 0);
    }

    private static void conditionNumbers(Due due) {
        due.sentence("rule: condition outside 0..1023: BAD");
        int[] outside = {-1, -4, -1024, 1024, 1025, 1028, 2047, 2048, MIN, MAX};
        for (int condition : outside) {
            badCondition(due, "condition " + condition, condition);
        }
        goodCondition(due, "condition 0", 0);
        goodCondition(due, "condition 1020, kind 0 with a and b 15", 1020);
    }

    private static void conditionCounters(Due due) {
        due.sentence("rule: a or b not as it must be: condition kind 1, counter a (0 to 3), b from 0 to 15");
        badCondition(due, "counter 4", Story.code(1, 4, 0));
        badCondition(due, "counter 7", Story.code(1, 7, 0));
        badCondition(due, "counter 15", Story.code(1, 15, 15));
        goodCondition(due, "counter 0, b 0", Story.code(1, 0, 0));
        goodCondition(due, "counter 3, b 15", Story.code(1, 3, 15));
    }

    private static void conditionPlaces(Due due) {
        due.sentence("rule: a or b not as it must be: condition kind 2, thing a (0 to 7), place b");
        badCondition(due, "thing 8", Story.code(2, 8, 0));
        badCondition(due, "thing 15", Story.code(2, 15, 15));
        goodCondition(due, "thing 0 in place 0", Story.code(2, 0, 0));
        goodCondition(due, "thing 7 in place 14", Story.code(2, 7, 14));
        goodCondition(due, "thing 7 in place 15, itself", Story.code(2, 7, 15));
    }

    private static void conditionTraits(Due due) {
        due.sentence("rule: a or b not as it must be: condition kind 3, thing a (0 to 7), b from 0 to 3");
        badCondition(due, "thing 8", Story.code(3, 8, 0));
        badCondition(due, "thing 15", Story.code(3, 15, 3));
        badCondition(due, "trait 4", Story.code(3, 0, 4));
        badCondition(due, "trait 15", Story.code(3, 7, 15));
        badCondition(due, "1023, thing 15 and trait 15", 1023);
        goodCondition(due, "thing 0, trait 0", Story.code(3, 0, 0));
        goodCondition(due, "thing 7, trait 3", Story.code(3, 7, 3));
    }

    private static void effectNumbers(Due due) {
        due.sentence("rule: effect outside 0..2047: BAD");
        int[] outside = {-1, -4, -1024, -2048, 2048, 2049, 2052, 3072, MIN, MAX};
        for (int effect : outside) {
            bad(due, "effect " + effect, Story.TAKE, 0, 0, effect);
        }
        goodEffect(due, "effect 0", 0);
        goodEffect(due, "effect 1020, number 255", 1020);
    }

    private static void effectMoves(Due due) {
        due.sentence("rule: a or b not as it must be: effect kind 1, thing a (0 to 7), place b");
        badEffect(due, "thing 8", Story.code(1, 8, 0));
        badEffect(due, "thing 15", Story.code(1, 15, 15));
        goodEffect(due, "thing 0 to place 0", Story.code(1, 0, 0));
        goodEffect(due, "thing 7 to place 15, itself", Story.code(1, 7, 15));
    }

    private static void effectCounters(Due due) {
        due.sentence("rule: a or b not as it must be: effect kind 2, counter a (0 to 3)");
        badEffect(due, "counter 4", Story.code(2, 4, 0));
        badEffect(due, "counter 5", Story.code(2, 5, 8));
        badEffect(due, "counter 15", Story.code(2, 15, 15));
        goodEffect(due, "counter 0 by -8", Story.code(2, 0, 0));
        goodEffect(due, "counter 3 by 7", Story.code(2, 3, 15));
    }

    private static void effectRooms(Due due) {
        due.sentence("rule: a or b not as it must be: effect kind 3, room a (0 to 5)");
        badEffect(due, "room 6", Story.code(3, 6, 0));
        badEffect(due, "room 7", Story.code(3, 7, 0));
        badEffect(due, "room 15", Story.code(3, 15, 15));
        goodEffect(due, "room 0", Story.code(3, 0, 0));
        goodEffect(due, "room 5", Story.code(3, 5, 0));
        goodEffect(due, "room 5, b 15, which must be nothing", Story.code(3, 5, 15));
    }

    private static void unruleOfNone(Due due) {
        due.sentence("unrule: BAD if there was none");
        StoryWorld world = new StoryWorld();
        due.is("unrule() of a new object", StoryWorld.BAD, world.unrule());
        due.is("unrule() again", StoryWorld.BAD, world.unrule());
        due.is("the first rule", 1, world.rule(Story.TAKE, 0, 0, 0));
        due.is("unrule() of one", 0, world.unrule());
        due.is("unrule() of none", StoryWorld.BAD, world.unrule());
        due.is("the first rule again", 1, world.rule(Story.TAKE, 0, 0, 0));
    }

    private static void unruleTheLast(Due due) {
        due.sentence("unrule: Takes the last rule away; answers how many are left");
        StoryWorld world = new StoryWorld();
        for (int i = 1; i <= 16; i++) {
            world.rule(Story.DROP, -1, 0, Story.say(i));
        }
        due.is("unrule() of 16", 15, world.unrule());
        world.command(Story.DROP, 0, 0);
        due.is("said()", 15, world.said());
        due.is("the first is there", 1, world.saying(0));
        due.is("the last but one is there", 15, world.saying(14));
        due.is("a rule in its stead", 16, world.rule(Story.DROP, -1, 0, Story.say(77)));
        world.command(Story.DROP, 0, 0);
        due.is("saying(30)", 77, world.saying(30));
        for (int left = 15; left >= 0; left--) {
            due.is("unrule()", left, world.unrule());
        }
        world.command(Story.DROP, 0, 0);
        due.is("said() without rules", 31, world.said());
    }

    private static void subjectApplies(Due due) {
        due.sentence("a rule APPLIES if its verb is the command's, its subject is x or -1");
        int[] last = {3, 7, 7, 7, 7, 7};
        for (int verb = 0; verb <= 5; verb++) {
            int other = (verb + 1) % 6;
            StoryWorld world = new StoryWorld();
            world.rule(verb, 0, Story.ALWAYS, Story.STOPS);
            due.is("x 0 is it", StoryWorld.STOPPED, world.command(verb, 0, 1));
            due.no("x 1 is not", world.command(verb, 1, 0) == StoryWorld.STOPPED);
            due.no("another verb is not", world.command(other, 0, 0) == StoryWorld.STOPPED);
            world.unrule();
            world.rule(verb, last[verb], Story.ALWAYS, Story.STOPS);
            due.is("the last x is it", StoryWorld.STOPPED, world.command(verb, last[verb], 0));
            due.no("the last but one is not", world.command(verb, last[verb] - 1, 0) == StoryWorld.STOPPED);
            world.unrule();
            world.rule(verb, -1, Story.ALWAYS, Story.STOPS);
            due.is("-1, x 0", StoryWorld.STOPPED, world.command(verb, 0, 0));
            due.is("-1, the last x", StoryWorld.STOPPED, world.command(verb, last[verb], 0));
            due.no("-1, another verb", world.command(other, 0, 0) == StoryWorld.STOPPED);
        }
    }

    private static void inOrder(Due due) {
        due.sentence("First the RULES, in order; its condition holds at that moment; then its effect takes place");
        StoryWorld world = new StoryWorld();
        world.rule(Story.OPEN, -1, Story.ifCounter(0, 2), Story.say(1));
        world.rule(Story.OPEN, -1, Story.ALWAYS, Story.grow(0, 2));
        world.rule(Story.OPEN, -1, Story.ifCounter(0, 2), Story.say(2));
        world.rule(Story.OPEN, -1, Story.ALWAYS, Story.grow(0, -1));
        world.rule(Story.OPEN, -1, Story.ifCounter(0, 2), Story.say(3));
        world.command(Story.OPEN, 0, 0);
        due.is("said()", 1, world.said());
        due.is("saying(0)", 2, world.saying(0));
        due.is("counter(0)", 1, world.counter(0));
        world.command(Story.OPEN, 0, 0);
        due.is("said()", 3, world.said());
        due.is("saying(1)", 2, world.saying(1));
        due.is("saying(2)", 3, world.saying(2));
    }

    private static void behindOneThatStops(Due due) {
        due.sentence("All rules are gone through in order, also those behind one that stops the command");
        StoryWorld world = new StoryWorld();
        world.rule(Story.TAKE, -1, Story.ALWAYS, Story.say(1) + Story.STOPS);
        for (int i = 2; i <= 16; i++) {
            world.rule(Story.TAKE, -1, Story.ALWAYS, Story.say(i));
        }
        due.is("TAKE, the first stops", StoryWorld.STOPPED, world.command(Story.TAKE, 0, 0));
        due.is("said()", 16, world.said());
        due.is("the first said first", 1, world.saying(0));
        due.is("the last said last", 16, world.saying(15));
        world.unrule();
        world.rule(Story.TAKE, -1, Story.ALWAYS, Story.say(17) + Story.STOPS);
        due.is("TAKE, the first and the last stop", StoryWorld.STOPPED, world.command(Story.TAKE, 0, 0));
        due.is("said()", 32, world.said());
        due.is("the last said last", 17, world.saying(31));
    }

    private static void effectsStay(Due due) {
        due.sentence("what their effects did stays when the result is STOPPED");
        StoryWorld world = new StoryWorld();
        world.link(2, 1, 4);
        world.rule(Story.GO, 1, Story.ALWAYS, Story.carry(2));
        world.rule(Story.GO, 1, Story.ALWAYS, Story.move(3, 5));
        world.rule(Story.GO, 1, Story.ALWAYS, Story.grow(3, 7));
        world.rule(Story.GO, 1, Story.ALWAYS, Story.say(200));
        world.rule(Story.GO, 1, Story.ALWAYS, Story.move(4, 1) + Story.STOPS);
        due.is("GO 1", StoryWorld.STOPPED, world.command(Story.GO, 1, 0));
        due.is("player()", 2, world.player());
        due.is("place(3)", 5, world.place(3));
        due.is("counter(3)", 7, world.counter(3));
        due.is("said()", 1, world.said());
        due.is("what the stopping one did", 1, world.place(4));
        world.unrule();
        due.is("GO 1, not stopped, from where the rule brought", StoryWorld.DONE, world.command(Story.GO, 1, 0));
        due.is("player()", 4, world.player());
    }

    private static void oneThatApplied(Due due) {
        due.sentence("If one that applied STOPS the command, the result is STOPPED");
        StoryWorld world = new StoryWorld();
        world.rule(Story.DROP, 0, Story.ifCounter(0, 1), Story.STOPS);
        world.rule(Story.DROP, 1, Story.ALWAYS, Story.STOPS);
        world.rule(Story.TAKE, 0, Story.ALWAYS, Story.STOPS);
        due.is("DROP 0, none applies", StoryWorld.NOT_HELD, world.command(Story.DROP, 0, 0));
        due.is("DROP 1, which could not be done", StoryWorld.STOPPED, world.command(Story.DROP, 1, 0));
        world.thing(1, 0, Story.HELD);
        due.is("DROP 1, which could be done", StoryWorld.STOPPED, world.command(Story.DROP, 1, 0));
        due.is("place(1)", Story.HELD, world.place(1));
        due.is("DROP 2", StoryWorld.NOT_HELD, world.command(Story.DROP, 2, 0));
    }
}
