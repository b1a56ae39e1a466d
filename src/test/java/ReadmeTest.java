/** The calls that README.md shows under 'How to use it' answer what is told there. */
public final class ReadmeTest {
    private static final Check CHECK = new Check("ReadmeTest");

    public static void main(String[] args) {
        HouseWires house = new HouseWires();
        int line = house.line(17);
        int key = lightsTheLamp(house, line);
        readsTheMeter(house, line, key);
        CHECK.end();
    }

    private static int lightsTheLamp(HouseWires house, int line) {
        int lamp = house.device(line, 1);
        int key = house.device(line, 2);
        int light = house.object(lamp, 0, 1 + 4, 1);
        int press = house.object(key, 0, 1 + 8, 1);
        CHECK.yes("link of the light", house.link(lamp, light, 5));
        CHECK.yes("link of the key", house.link(key, press, 5));
        CHECK.due("set", house.set(key, press, 1), 1);
        CHECK.due("step", house.step(1), 1);
        CHECK.due("the light", house.value(lamp, light), 1);
        return key;
    }

    private static void readsTheMeter(HouseWires house, int line, int key) {
        int attic = house.line(18);
        CHECK.due("coupler", house.coupler(line, attic), 0);
        int meter = house.device(attic, 1);
        CHECK.yes("store", house.store(meter, 7, 99));
        CHECK.yes("connect", house.connect(key, 256 * 18 + 1));
        CHECK.due("steps till it is OPEN", house.step(2), 2);
        CHECK.due("how the key is", house.connection(key, 0), 1);
        CHECK.due("how the meter is", house.connection(meter, 0), 1);
        CHECK.yes("peek", house.peek(key, 7, 1));
        CHECK.due("steps till the answer", house.step(5), 6);
        CHECK.due("the answer's bytes", house.reply(key, HouseWires.NONE), 1);
        CHECK.due("the answer", house.reply(key, 0), 99);
        CHECK.yes("disconnect", house.disconnect(key));
        CHECK.due("how the key is at the end", house.connection(key, 0), 0);
    }
}
