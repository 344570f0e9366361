/** Promise 6: rule. */
public final class Promise06RuleTest {
    public static void main(String[] args) {
        Due due = new Due();
        verbsAndSubjects(due);
        everyCondition(due);
        everyEffect(due);
        roomForRules(due);
        due.end();
    }

    private static void verbsAndSubjects(Due due) {
        for (int verb = -3; verb <= 9; verb++) {
            for (int subject = -4; subject <= 12; subject++) {
                int last = verb == Story.GO ? 3 : 7;
                boolean good = verb >= 0 && verb <= 5 && subject >= -1 && subject <= last;
                due.is("rule(" + verb + ", " + subject + ", 0, 0)", good ? 1 : StoryWorld.BAD,
                        new StoryWorld().rule(verb, subject, 0, 0));
            }
        }
        int[] far = {Integer.MIN_VALUE, Integer.MAX_VALUE};
        for (int n : far) {
            StoryWorld world = new StoryWorld();
            due.is("far verb", StoryWorld.BAD, world.rule(n, 0, 0, 0));
            due.is("far subject", StoryWorld.BAD, world.rule(1, n, 0, 0));
            due.is("far condition", StoryWorld.BAD, world.rule(1, 0, n, 0));
            due.is("far effect", StoryWorld.BAD, world.rule(1, 0, 0, n));
            due.is("none is there", StoryWorld.BAD, world.unrule());
        }
    }

    private static void everyCondition(Due due) {
        for (int condition = -1100; condition <= 2200; condition++) {
            due.is("rule(1, 0, " + condition + ", 0)", isCondition(condition) ? 1 : StoryWorld.BAD,
                    new StoryWorld().rule(1, 0, condition, 0));
        }
    }

    private static boolean isCondition(int n) {
        if (n < 0 || n > 1023) {
            return false;
        }
        int kind = n % 4;
        int a = n / 4 % 16;
        int b = n / 64;
        return kind == 0 || kind == 1 && a < 4 || kind == 2 && a < 8 || kind == 3 && a < 8 && b < 4;
    }

    private static void everyEffect(Due due) {
        for (int effect = -2100; effect <= 4200; effect++) {
            due.is("rule(1, 0, 0, " + effect + ")", isEffect(effect) ? 1 : StoryWorld.BAD,
                    new StoryWorld().rule(1, 0, 0, effect));
        }
    }

    private static boolean isEffect(int n) {
        if (n < 0 || n > 2047) {
            return false;
        }
        int kind = n % 4;
        int a = n / 4 % 16;
        return kind == 0 || kind == 1 && a < 8 || kind == 2 && a < 4 || kind == 3 && a < 6;
    }

    private static void roomForRules(Due due) {
        StoryWorld world = new StoryWorld();
        for (int i = 1; i <= 16; i++) {
            due.is("rule " + i, i, world.rule(Story.DROP, -1, 0, Story.say(100 + i)));
            due.is("a bad one between", i == 16 ? StoryWorld.NO_ROOM : StoryWorld.BAD,
                    world.rule(6, 0, 0, 0));
        }
        due.is("one more", StoryWorld.NO_ROOM, world.rule(Story.DROP, -1, 0, 0));
        due.is("NO_ROOM goes before BAD", StoryWorld.NO_ROOM, world.rule(-1, -2, -1, -1));
        world.command(Story.DROP, 0, 0);
        due.is("said()", 16, world.said());
        for (int i = 0; i < 16; i++) {
            due.is("saying(" + i + ")", 101 + i, world.saying(i));
        }
    }
}
