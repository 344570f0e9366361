/** Promise 13: player. */
public final class Promise13PlayerTest {
    public static void main(String[] args) {
        Due due = new Due();
        StoryWorld world = new StoryWorld();
        due.is("player() at first", 0, world.player());
        for (int room = 0; room < 6; room++) {
            world.link(room, 1, (room + 1) % 6);
        }
        for (int step = 1; step <= 7; step++) {
            world.command(Story.GO, 1, 0);
            due.is("player() after step " + step, step % 6, world.player());
            due.is("player() asked again", step % 6, world.player());
        }
        world.command(Story.GO, 2, 0);
        due.is("player() where there is no way", 1, world.player());
        world.command(Story.GO, 4, 0);
        due.is("player() after what was refused", 1, world.player());
        world.rule(Story.GO, -1, Story.ALWAYS, Story.STOPS);
        world.command(Story.GO, 1, 0);
        due.is("player() stopped", 1, world.player());
        world.rule(Story.GO, -1, Story.ALWAYS, Story.carry(5));
        world.command(Story.GO, 1, 0);
        due.is("player() stopped and carried", 5, world.player());
        due.end();
    }
}
