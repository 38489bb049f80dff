/** Houses to begin a test with. */
final class Houses {
    private Houses() {
    }

    /** With fish of these weights, which lie outside. */
    static SmokeRacks with(int... weights) {
        SmokeRacks house = new SmokeRacks();
        for (int weight : weights) {
            house.fish(weight);
        }
        return house;
    }

    /** With so many fish of weight 1, which lie outside. */
    static SmokeRacks ofMany(int many) {
        SmokeRacks house = new SmokeRacks();
        for (int fish = 0; fish < many; fish++) {
            house.fish(1);
        }
        return house;
    }

    /** With fish of these weights, the first on the hook 0 of the rack, the next on the hook 9, then 8 and so on. */
    static SmokeRacks hanging(int rack, int... weights) {
        SmokeRacks house = with(weights);
        for (int fish = 0; fish < weights.length; fish++) {
            house.hang(fish, rack, fish == 0 ? 0 : 10 - fish);
        }
        return house;
    }

    /** One fish on the hook 0 of the rack 0, over logs of a wood. */
    static SmokeRacks smoking(int weight, int logs, int wood) {
        SmokeRacks house = hanging(0, weight);
        if (logs > 0) {
            house.logs(logs);
        }
        if (wood > 0) {
            house.wood(wood);
        }
        return house;
    }

    /** One fish of this salt on the hook 0 of the rack 0; the salt is even, or 9. */
    static SmokeRacks salted(int weight, int salt, int logs) {
        SmokeRacks house = with(weight);
        house.brine(0);
        for (int had = 0; had < salt; had += 2) {
            house.day();
        }
        house.out(0);
        house.hang(0, 0, 0);
        house.logs(logs);
        return house;
    }

    static void append(SmokeRacks house, String text) {
        for (int i = 0; i < text.length(); i++) {
            house.append(text.charAt(i));
        }
    }

    static int carryOut(SmokeRacks house, String text) {
        append(house, text);
        return house.commands();
    }
}
