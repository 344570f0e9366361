/** Promise 10, with the terms: which rules apply to a command, and what their effects do. */
public final class Promise10RulesTest {
    public static void main(String[] args) {
        Due due = new Due();
        verbAndSubject(due);
        conditions(due);
        conditionsAtThatMoment(due);
        moves(due);
        counters(due);
        carries(due);
        resultAfterTheRules(due);
        due.end();
    }

    private static void verbAndSubject(Due due) {
        for (int verb = 0; verb < 6; verb++) {
            int last = verb == Story.GO ? 3 : 7;
            for (int subject = -1; subject <= last; subject++) {
                StoryWorld world = new StoryWorld();
                world.rule(verb, subject, Story.ALWAYS, Story.STOPS + Story.say(5));
                for (int given = 0; given < 6; given++) {
                    for (int x = 0; x <= (given == Story.GO ? 3 : 7); x++) {
                        boolean applies = given == verb && (subject == -1 || subject == x);
                        int answer = world.command(given, x, 0);
                        due.is("rule " + verb + " " + subject + ", command " + given + " " + x,
                                applies ? 1 : 0, answer == StoryWorld.STOPPED ? 1 : 0);
                    }
                }
                due.is("said()", subject == -1 ? last + 1 : 1, world.said());
            }
        }
        StoryWorld world = new StoryWorld();
        world.rule(Story.PUT, 3, Story.ALWAYS, Story.STOPS);
        due.is("y is not the subject", StoryWorld.NOT_HELD, world.command(Story.PUT, 2, 3));
        due.is("x is", StoryWorld.STOPPED, world.command(Story.PUT, 3, 2));
    }

    /** Asked with a GO that has no exit, so that nothing changes where the rule does not apply. */
    private static boolean applies(StoryWorld world, int condition) {
        world.rule(Story.GO, 3, condition, Story.STOPS);
        boolean stopped = world.command(Story.GO, 3, 0) == StoryWorld.STOPPED;
        world.unrule();
        return stopped;
    }

    private static void conditions(Due due) {
        StoryWorld world = new StoryWorld();
        due.yes("kind 0, whatever a and b are", applies(world, Story.code(0, 15, 15)));
        due.yes("kind 0, whatever a and b are", applies(world, Story.code(0, 9, 1)));
        int[] counts = {3, -2, 0, 15};
        grow(world, 0, 3);
        grow(world, 1, -2);
        grow(world, 3, 7);
        grow(world, 3, 7);
        grow(world, 3, 1);
        for (int k = 0; k < 4; k++) {
            due.is("counter(" + k + ")", counts[k], world.counter(k));
            for (int b = 0; b < 16; b++) {
                due.is("counter " + k + " at least " + b, counts[k] >= b ? 1 : 0,
                        applies(world, Story.ifCounter(k, b)) ? 1 : 0);
            }
        }
        for (int t = 0; t < 8; t++) {
            StoryWorld one = new StoryWorld();
            int traits = t * 2 + 1;
            int place = (t * 3 + 1) % 16;
            one.thing(t, traits, place);
            for (int b = 0; b < 16; b++) {
                due.is("thing " + t + " in place " + b, b == place ? 1 : 0,
                        applies(one, Story.ifPlace(t, b)) ? 1 : 0);
            }
            for (int b = 0; b < 4; b++) {
                due.is("thing " + t + " has trait " + b, traits >> b & 1,
                        applies(one, Story.ifTrait(t, b)) ? 1 : 0);
            }
        }
        StoryWorld nested = new StoryWorld();
        nested.thing(0, Story.OPEN_BOX, 2);
        nested.thing(1, 0, Story.in(0));
        due.no("what is in a thing in a room is not in the room", applies(nested, Story.ifPlace(1, 2)));
    }

    private static void grow(StoryWorld world, int k, int by) {
        world.rule(Story.DROP, 0, Story.ALWAYS, Story.grow(k, by));
        world.command(Story.DROP, 0, 0);
        world.unrule();
    }

    private static void conditionsAtThatMoment(Due due) {
        StoryWorld world = new StoryWorld();
        world.rule(Story.TAKE, -1, Story.ifCounter(0, 1), Story.say(1));
        world.rule(Story.TAKE, -1, Story.ALWAYS, Story.grow(0, 1));
        world.rule(Story.TAKE, -1, Story.ifCounter(0, 1), Story.say(2));
        world.rule(Story.TAKE, -1, Story.ifPlace(3, 5), Story.say(3));
        world.rule(Story.TAKE, -1, Story.ALWAYS, Story.move(3, 5));
        world.rule(Story.TAKE, -1, Story.ifPlace(3, 5), Story.say(4));
        world.command(Story.TAKE, 0, 0);
        due.is("said()", 2, world.said());
        due.is("saying(0)", 2, world.saying(0));
        due.is("saying(1)", 4, world.saying(1));
        world.command(Story.TAKE, 0, 0);
        due.is("said()", 6, world.said());
        due.is("saying(2)", 1, world.saying(2));
        due.is("saying(3)", 2, world.saying(3));
        due.is("saying(4)", 3, world.saying(4));
        due.is("saying(5)", 4, world.saying(5));
    }

    private static void moves(Due due) {
        for (int t = 0; t < 8; t++) {
            for (int place = 0; place < 16; place++) {
                StoryWorld world = new StoryWorld();
                world.thing(t, 9, 4);
                world.rule(Story.GO, 1, Story.ALWAYS, Story.move(t, place));
                due.is("GO 1", StoryWorld.NO_WAY, world.command(Story.GO, 1, 0));
                due.is("thing " + t + " to " + place, place == Story.in(t) ? 4 : place, world.place(t));
                due.is("traits", 9, world.traits(t));
            }
        }
        StoryWorld world = new StoryWorld();
        world.thing(0, 0, 2);
        world.thing(1, 0, Story.in(0));
        world.thing(2, 0, Story.in(1));
        world.rule(Story.GO, 0, Story.ALWAYS, Story.STOPS + Story.move(0, Story.in(2)));
        due.is("it stops all the same", StoryWorld.STOPPED, world.command(Story.GO, 0, 0));
        due.is("nothing happens", 2, world.place(0));
        world.rule(Story.GO, 1, Story.ALWAYS, Story.move(2, Story.in(0)));
        due.is("GO 1", StoryWorld.NO_WAY, world.command(Story.GO, 1, 0));
        due.is("place(2)", Story.in(0), world.place(2));
        // A fifth held thing and a fourth in a box: effects know no limits.
        for (int t = 3; t < 8; t++) {
            world.thing(t, 0, 1);
            world.rule(Story.GO, 2, Story.ALWAYS, Story.move(t, Story.HELD));
            world.rule(Story.GO, 3, Story.ALWAYS, Story.move(t, Story.in(0)));
        }
        world.command(Story.GO, 2, 0);
        for (int t = 3; t < 8; t++) {
            due.is("place(" + t + ")", Story.HELD, world.place(t));
        }
        world.command(Story.GO, 3, 0);
        for (int t = 3; t < 8; t++) {
            due.is("place(" + t + ")", Story.in(0), world.place(t));
        }
    }

    private static void counters(Due due) {
        for (int k = 0; k < 4; k++) {
            for (int b = 0; b < 16; b++) {
                StoryWorld world = new StoryWorld();
                world.rule(Story.OPEN, -1, Story.ALWAYS, Story.code(2, k, b));
                world.command(Story.OPEN, 0, 0);
                world.command(Story.OPEN, 1, 0);
                for (int other = 0; other < 4; other++) {
                    due.is("counter(" + other + ")", other == k ? 2 * (b - 8) : 0, world.counter(other));
                }
            }
        }
    }

    private static void carries(Due due) {
        for (int room = 0; room < 6; room++) {
            for (int b = 0; b < 16; b++) {
                StoryWorld world = new StoryWorld();
                world.rule(Story.CLOSE, 2, Story.ALWAYS, Story.code(3, room, b));
                world.command(Story.CLOSE, 2, 0);
                due.is("player()", room, world.player());
            }
        }
    }

    private static void resultAfterTheRules(Due due) {
        StoryWorld world = new StoryWorld();
        world.link(0, 0, 1);
        world.link(4, 0, 5);
        world.rule(Story.GO, 0, Story.ALWAYS, Story.carry(4));
        due.is("GO from where the rule put the player", StoryWorld.DONE, world.command(Story.GO, 0, 0));
        due.is("player()", 5, world.player());
        due.is("GO", StoryWorld.DONE, world.command(Story.GO, 0, 0));
        due.is("player()", 5, world.player());
        world.rule(Story.TAKE, 0, Story.ALWAYS, Story.move(0, 5));
        due.is("TAKE what the rule brought", StoryWorld.DONE, world.command(Story.TAKE, 0, 0));
        due.is("TAKE again", StoryWorld.DONE, world.command(Story.TAKE, 0, 0));
        world.rule(Story.DROP, 0, Story.ALWAYS, Story.move(0, Story.NOWHERE));
        due.is("DROP what the rule took", StoryWorld.NOT_HELD, world.command(Story.DROP, 0, 0));
        due.is("place(0)", Story.NOWHERE, world.place(0));
        world.rule(Story.DROP, 1, Story.ALWAYS, Story.carry(2));
        world.thing(1, 0, Story.HELD);
        due.is("DROP where the rule put the player", StoryWorld.DONE, world.command(Story.DROP, 1, 0));
        due.is("place(1)", 2, world.place(1));
    }
}
