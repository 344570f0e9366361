/** Promise 1: a new object is as the terms say, without exits, rules, words, typed or said. */
public final class Promise01NewObjectTest {
    public static void main(String[] args) {
        Due due = new Due();
        StoryWorld world = new StoryWorld();
        for (int t = 0; t < 8; t++) {
            due.is("place(" + t + ")", 7, world.place(t));
            due.is("traits(" + t + ")", 0, world.traits(t));
            due.no("visible(" + t + ")", world.visible(t));
        }
        for (int k = 0; k < 4; k++) {
            due.is("counter(" + k + ")", 0, world.counter(k));
        }
        due.is("player()", 0, world.player());
        due.is("said()", 0, world.said());
        due.is("saying(0)", StoryWorld.BAD, world.saying(0));
        due.is("unrule()", StoryWorld.BAD, world.unrule());
        due.is("enter()", StoryWorld.NOTHING, world.enter());
        noExits(due);
        noRoomIsDark(due);
        noWords(due);
        objectsAreApart(due);
        due.end();
    }

    private static void noExits(Due due) {
        for (int room = 0; room < 6; room++) {
            StoryWorld world = new StoryWorld();
            world.rule(Story.TAKE, 0, Story.ALWAYS, Story.carry(room));
            world.command(Story.TAKE, 0, 0);
            for (int direction = 0; direction < 4; direction++) {
                due.is("GO " + direction + " in room " + room, StoryWorld.NO_WAY,
                        world.command(Story.GO, direction, 0));
            }
            due.is("player()", room, world.player());
        }
    }

    private static void noRoomIsDark(Due due) {
        for (int room = 0; room < 6; room++) {
            StoryWorld world = new StoryWorld();
            world.rule(Story.DROP, 0, Story.ALWAYS, Story.carry(room));
            world.command(Story.DROP, 0, 0);
            world.thing(1, 0, room);
            due.yes("visible(1) in room " + room, world.visible(1));
        }
    }

    private static void noWords(Due due) {
        for (char c = 'a'; c <= 'z'; c++) {
            StoryWorld world = new StoryWorld();
            due.is("enter() after " + c, StoryWorld.UNKNOWN, Story.enter(world, "" + c));
        }
        due.is("the first word", 1, new StoryWorld().word(1, 0));
    }

    private static void objectsAreApart(Due due) {
        StoryWorld one = new StoryWorld();
        StoryWorld other = new StoryWorld();
        one.thing(0, 8, 3);
        one.word(1, 1);
        one.rule(0, -1, 0, 0);
        one.link(0, 0, 1);
        due.is("place(0) of the other", 7, other.place(0));
        due.is("GO of the other", StoryWorld.NO_WAY, other.command(Story.GO, 0, 0));
        due.is("said() of the other", 0, other.said());
        due.is("word of the other", 1, other.word(2, 1));
    }
}
