/** Objects that have some of all that there is, or all of it to the brim. */
final class Towers {
    static final int LAID_OF_BRIM = 1 | 2 | 1 << 11;

    private Towers() {
    }

    /** Some STONES, HOUSES, TEXTS, SOUNDS, STEPS, an image, bytes on the tape and a FAULT. */
    static WalledIn some() {
        WalledIn x = Edges.stones(3);
        x.stone(9, 9, 9, 5, 1);
        x.hour(7);
        x.house(5);
        x.house(0);
        x.house(2);
        x.touch(0, 1, true);
        x.touch(1, 2, true);
        Check.read(x, "lift laid+hour;may stone#2;fits quarry=stone;");
        Check.read(x, "lay 1;lay 1;");
        x.by(0);
        x.sound(0, 2);
        x.lay(0);
        x.image();
        x.lend(0, 1);
        x.lay(3);
        x.sound(9, 9);
        tapeAndFault(x);
        return x;
    }

    static void tapeAndFault(WalledIn x) {
        Check.read(x, "lay 12;");
        Check.feed(x, "lift 9;");
    }

    /** Changes all that can be changed of some(). */
    static void spoil(WalledIn x) {
        x.stone(1, 1, 1, 0, 0);
        x.hour(20);
        x.house(9);
        x.touch(0, 1, false);
        x.touch(2, 3, true);
        Check.read(x, "lift 3;may 1=1;fits 1=1;");
        x.by(2);
        x.hush();
        x.sound(0, 20);
        x.lay(4);
        x.out(3);
        x.out(0);
        x.town(3, 9);
    }

    /** 12 STONES, 10 HOUSES, 4 TEXTS, 8 SOUNDS, 30 STEPS of 34, 300 bytes. */
    static WalledIn brim() {
        WalledIn x = Edges.stones(11);
        x.stone(99, 20, 99, 2047, 1);
        for (int i = 0; i < 10; i++) {
            x.house(9 - i);
        }
        x.touch(0, 9, true);
        x.touch(0, 1, true);
        Check.read(x, "lift weight*hour;may laid<9;fits quarry*2=stone;");
        Check.read(x, "lift 1;");
        Check.read(x, "");
        Check.read(x, "lay 0;");
        x.by(0);
        x.hour(23);
        for (int i = 0; i < 8; i++) {
            x.sound(0, 12 + i);
        }
        x.lay(0);
        for (int i = 0; i < 10; i++) {
            x.lay(1);
            x.lend(i % 3 == 2 ? 9 : 0, i % 3 == 2 ? 0 : 9);
            x.out(1);
        }
        x.lay(1);
        x.lay(11);
        x.town(5, 5);
        for (int i = 0; i < 15; i++) {
            x.feed(0x6c617920, 0x303b2020, 0x6c617920, 0x303b2020, 0x6c696674);
        }
        return x;
    }
}
