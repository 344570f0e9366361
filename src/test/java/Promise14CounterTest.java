/** Promise 14: counter. */
public final class Promise14CounterTest {
    public static void main(String[] args) {
        Due due = new Due();
        StoryWorld world = new StoryWorld();
        for (int k = 0; k < 4; k++) {
            world.rule(Story.DROP, -1, Story.ALWAYS, Story.grow(k, k * 3 - 5));
        }
        for (int times = 1; times <= 40; times++) {
            world.command(Story.DROP, 0, 0);
            for (int k = 0; k < 4; k++) {
                due.is("counter(" + k + ")", times * (k * 3 - 5), world.counter(k));
            }
        }
        int[] outside = {-1, 4, 5, 8, 100, Integer.MIN_VALUE, Integer.MAX_VALUE};
        for (int k : outside) {
            due.is("counter(" + k + ")", 0, world.counter(k));
        }
        farFromZero(due);
        due.end();
    }

    /** As far as 512 calls go: a counter is no small number. */
    private static void farFromZero(Due due) {
        StoryWorld world = new StoryWorld();
        for (int i = 0; i < 8; i++) {
            world.rule(Story.DROP, -1, Story.ALWAYS, Story.grow(2, 7));
            world.rule(Story.DROP, -1, Story.ALWAYS, Story.grow(1, -8));
        }
        for (int i = 0; i < 490; i++) {
            world.command(Story.DROP, 0, 0);
        }
        due.is("counter(2)", 490 * 8 * 7, world.counter(2));
        due.is("counter(1)", -490 * 8 * 8, world.counter(1));
        due.is("counter(0)", 0, world.counter(0));
    }
}
